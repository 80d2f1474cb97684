-- every method answers: totality within bounds, by invariants of the two states
set_option maxRecDepth 2000
/-! THE REFERENCE READS: tokens -/
def TK (σ : zS) : Prop :=
  (0 ≤ σ 82 4 ∧ σ 82 4 ≤ 1500) ∧
  (0 ≤ σ 82 5 ∧ σ 82 5 ≤ 1500) ∧
  (0 ≤ σ 82 6 ∧ σ 82 6 ≤ 1500) ∧
  (σ 82 5 + σ 82 6 ≤ 1500) ∧
  (σ 82 7 = 2 → σ 82 6 ≤ 6) ∧
  (¬ σ 82 7 = 0 → 1 ≤ σ 82 6) ∧
  (σ 82 7 = 3 → 0 ≤ σ 82 8 ∧ σ 82 8 ≤ 7) ∧
  (∀ i, 0 ≤ σ 86 i ∧ σ 86 i ≤ 6)
theorem TK.ts {σ : zS} (h : TK σ) : 0 ≤ σ 82 4 ∧ σ 82 4 ≤ 1500 := h.1
theorem TK.ta {σ : zS} (h : TK σ) : 0 ≤ σ 82 5 ∧ σ 82 5 ≤ 1500 := h.2.1
theorem TK.tz {σ : zS} (h : TK σ) : 0 ≤ σ 82 6 ∧ σ 82 6 ≤ 1500 := h.2.2.1
theorem TK.su {σ : zS} (h : TK σ) : σ 82 5 + σ 82 6 ≤ 1500 := h.2.2.2.1
theorem TK.nm {σ : zS} (h : TK σ) : σ 82 7 = 2 → σ 82 6 ≤ 6 := h.2.2.2.2.1
theorem TK.po {σ : zS} (h : TK σ) : ¬ σ 82 7 = 0 → 1 ≤ σ 82 6 := h.2.2.2.2.2.1
theorem TK.nu {σ : zS} (h : TK σ) : σ 82 7 = 3 → 0 ≤ σ 82 8 ∧ σ 82 8 ≤ 7 := h.2.2.2.2.2.2.1
theorem TK.n6 {σ : zS} (h : TK σ) : ∀ i, 0 ≤ σ 86 i ∧ σ 86 i ≤ 6 := h.2.2.2.2.2.2.2
def FT (σ r : zS) : Prop :=
  (∀ q, q ≠ 82 → r q = σ q) ∧
  (∀ i, i ≠ 5 → i ≠ 6 → i ≠ 7 → i ≠ 8 → r 82 i = σ 82 i)
theorem FT.fr {σ r : zS} (h : FT σ r) : ∀ q, q ≠ 82 → r q = σ q := h.1
theorem FT.ff {σ r : zS} (h : FT σ r) : ∀ i, i ≠ 5 → i ≠ 6 → i ≠ 7 → i ≠ 8 → r 82 i = σ 82 i := h.2
theorem FT.refl (σ : zS) : FT σ σ := ⟨fun _ _ => rfl, fun _ _ _ _ _ => rfl⟩
theorem FT.up {σ r : zS} {i : Nat} {v : Int32} (hi : i = 5 ∨ i = 6 ∨ i = 7 ∨ i = 8) (h : FT σ r) : FT σ (zx_up r 82 i v) :=
  ⟨fun q hq => by rw [zu_other hq]; exact h.fr q hq, fun j a b c d => by rw [zx_up_same, zu_ne (by omega)]; exact h.ff j a b c d⟩
theorem q_f_M_byteAt {σ : zS} {x1 : Int32} {Q : Int32 → Prop} (ht : σ 82 4 ≤ 1500) (h0 : 0 ≤ x1) (hQ : ∀ r, (r = 0 ∨ x1 < σ 82 4) → (0 ≤ r ∧ r ≤ 255) → Q r) : zq (zf_M_byteAt σ x1) Q := by
  unfold zf_M_byteAt
  refine zq_ite (fun _ => hQ _ (Or.inl rfl) (by decide)) fun c => ?_
  have c' := Int32.not_le.mp c
  refine zq_chk ⟨h0, Int32.lt_of_lt_of_le c' ht⟩ fun _ => hQ _ (Or.inr c') (z_and _ 255 (by decide))
theorem q_f_M_isLetter {σ : zS} {x1 : Int32} {Q : Int32 → Prop} (hQ : ∀ r, (r = 0 ∨ (r = 1 ∧ 97 ≤ x1 ∧ x1 ≤ 122)) → Q r) : zq (zf_M_isLetter σ x1) Q := by
  unfold zf_M_isLetter
  refine zq_bind (q_f_M_in fun r1 p1 => ?_)
  exact zq_chk (by grind) fun _ => hQ _ (by grind)
theorem q_f_M_isDigit {σ : zS} {x1 : Int32} {Q : Int32 → Prop} (hQ : ∀ r, (r = 0 ∨ (r = 1 ∧ 48 ≤ x1 ∧ x1 ≤ 57)) → Q r) : zq (zf_M_isDigit σ x1) Q := by
  unfold zf_M_isDigit
  refine zq_bind (q_f_M_in fun r1 p1 => ?_)
  exact zq_chk (by grind) fun _ => hQ _ (by grind)
theorem z_sum {a b : Int32} (ha : 0 ≤ a ∧ a ≤ 1500) (hb : 0 ≤ b ∧ b ≤ 1501) : 0 ≤ a + b ∧ a + b ≤ 3001 := by grind
theorem q_f_M_wordHere {N : Nat} (hN : zBig ≤ N) {σ : zS} {Q : Int32 → Prop} (ht : σ 82 4 ≤ 1500) (ha : 0 ≤ σ 82 5 ∧ σ 82 5 ≤ 1500) (hz : 0 ≤ σ 82 6 ∧ σ 82 6 ≤ 1501) (hQ : ∀ r, Q r) : zq (zf_M_wordHere N σ) Q := by
  have H : ∀ (n : Nat) (v1 : Int64) (v3 : Int32), 0 ≤ v3 → zmu v3 < n → zq (zb_M_wordHere_4 N n σ v1 v3) Q := by
    intro n
    induction n with
    | zero => intro _ _ _ hn; exact absurd hn (Nat.not_lt_zero _)
    | succ n ih =>
      intro v1 v3 h0 hn
      rw [zb_M_wordHere_4]
      refine zq_ite (fun _ => ?_) fun c1 => ?_
      · repeat' (first | exact hQ _ | refine zq_ite (fun _ => ?_) fun _ => ?_)
      · have c1' := Int32.not_le.mp c1
        refine zq_bind (q_f_M_byteAt ht (z_sum ha ⟨h0, Int32.le_of_lt (Int32.lt_of_lt_of_le c1' hz.2)⟩).1 fun r _ _ => ?_)
        exact ih _ (v3 + 1) (by (first | with_reducible assumption | omega | grind)) (zmu_up c1 hn)
  exact H N 0 0 (by decide) (zmu_lt hN _)
/-- what 'next' leaves -/
def NX1 (σ r : zS) (v1 : Int32) : Prop := FT σ r ∧ TK r ∧ v1 ≤ r 82 5
theorem q_b_M_next_161 {N : Nat} (hN : zBig ≤ N) {σ ρ : zS} {v1 s0 : Int32} {Q : zS → Prop} (n6 : ∀ i, 0 ≤ σ 86 i ∧ σ 86 i ≤ 6) (hf : FT σ ρ) (ts : 0 ≤ ρ 82 4 ∧ ρ 82 4 ≤ 1500) (ta : 0 ≤ ρ 82 5 ∧ ρ 82 5 ≤ 1500) (tz : 1 ≤ ρ 82 6 ∧ ρ 82 6 ≤ 1500) (su : ρ 82 5 + ρ 82 6 ≤ 1500) (h2 : s0 = 2 → ρ 82 6 ≤ 6) (h3 : s0 = 1 ∨ s0 = 2) (hv : v1 ≤ ρ 82 5) (hQ : ∀ r, NX1 σ r v1 → Q r) : zq (zb_M_next_161 N ρ s0) Q := by
  have tk : ∀ v, (v = 1 ∨ v = 2 ∧ ρ 82 6 ≤ 6 ∨ v = 5) → TK (zx_up ρ 82 7 v) := by
    intro v hv
    have e : ∀ i, i ≠ 7 → (zx_up ρ 82 7 v) 82 i = ρ 82 i := fun i h => by rw [zx_up_same, zu_ne h]
    have e7 : (zx_up ρ 82 7 v) 82 7 = v := by rw [zx_up_same, zu_eq]
    refine ⟨by rw [e 4 (by decide)]; exact ts, by rw [e 5 (by decide)]; exact ta, by rw [e 6 (by decide)]; exact ⟨Int32.le_trans (by decide) tz.1, tz.2⟩, by rw [e 5 (by decide), e 6 (by decide)]; exact su, ?_, ?_, ?_, by rw [zu_other (by decide), hf.fr 86 (by decide)]; exact n6⟩
    · rw [e7, e 6 (by decide)]; intro q; rcases hv with h | h | h
      · rw [h] at q; exact absurd q (by decide)
      · exact h.2
      · rw [h] at q; exact absurd q (by decide)
    · rw [e 6 (by decide)]; exact fun _ => tz.1
    · rw [e7]; intro q; rcases hv with h | h | h
      · rw [h] at q; exact absurd q (by decide)
      · rw [h.1] at q; exact absurd q (by decide)
      · rw [h] at q; exact absurd q (by decide)
  have fin : ∀ v, (v = 1 ∨ v = 2 ∧ ρ 82 6 ≤ 6 ∨ v = 5) → Q (zx_up ρ 82 7 v) := fun v h => hQ _ ⟨FT.up (by simp) hf, tk v h, by rw [zx_up_same, zu_ne (by decide)]; exact hv⟩
  unfold zb_M_next_161
  refine zq_ite (fun c => fin _ ?_) fun c => ?_
  · exact h3.elim Or.inl (fun q => absurd q c)
  · have e2 : s0 = 2 := Decidable.not_not.mp c
    subst e2
    have e : ∀ v i, i ≠ 7 → (zx_up ρ 82 7 v) 82 i = ρ 82 i := fun v i h => by rw [zx_up_same, zu_ne h]
    refine zq_bind (q_f_M_wordHere hN ts.2 ta ⟨Int32.le_trans (by decide) tz.1, Int32.le_trans tz.2 (by decide)⟩ fun r35 => ?_)
    refine zq_ite (fun _ => fin _ (Or.inr (Or.inl ⟨rfl, h2 rfl⟩))) fun _ => ?_
    refine zq_bind (q_f_M_wordHere hN ts.2 ta ⟨Int32.le_trans (by decide) tz.1, Int32.le_trans tz.2 (by decide)⟩ fun r37 => ?_)
    refine hQ _ ⟨FT.up (by simp) (FT.up (by simp) (FT.up (by simp) hf)), ?_, ?_⟩
    · have e : ∀ i, i ≠ 7 → i ≠ 8 → (zx_up (zx_up (zx_up ρ 82 7 2) 82 7 5) 82 8 r37) 82 i = ρ 82 i := fun i a b => by rw [zx_up_same, zu_ne b, zx_up_same, zu_ne a, zx_up_same, zu_ne a]
      have e7 : (zx_up (zx_up (zx_up ρ 82 7 2) 82 7 5) 82 8 r37) 82 7 = 5 := by rw [zx_up_same, zu_ne (by decide), zx_up_same, zu_eq]
      refine ⟨by rw [e 4 (by decide) (by decide)]; exact ts, by rw [e 5 (by decide) (by decide)]; exact ta, by rw [e 6 (by decide) (by decide)]; exact ⟨Int32.le_trans (by decide) tz.1, tz.2⟩, by rw [e 5 (by decide) (by decide), e 6 (by decide) (by decide)]; exact su, ?_, ?_, ?_, by rw [zu_other (by decide), zu_other (by decide), zu_other (by decide), hf.fr 86 (by decide)]; exact n6⟩
      · rw [e7]; intro q; exact absurd q (by decide)
      · rw [e 6 (by decide) (by decide)]; exact fun _ => tz.1
      · rw [e7]; intro q; exact absurd q (by decide)
    · rw [zx_up_same, zu_ne (by decide), zx_up_same, zu_ne (by decide), zx_up_same, zu_ne (by decide)]; exact hv
theorem z_lt1500 {a b t : Int32} (h : a + b < t) (ht : t ≤ 1500) (ha : 0 ≤ a ∧ a ≤ 1500) (hb : 1 ≤ b ∧ b ≤ 1500) : a + (b + 1) ≤ 1500 ∧ (1 ≤ b + 1 ∧ b + 1 ≤ 1500) := by
  have a0 : 0 ≤ a.toInt := Int32.le_iff_toInt_le.mp ha.1
  have a1 : a.toInt ≤ 1500 := Int32.le_iff_toInt_le.mp ha.2
  have b0 : 1 ≤ b.toInt := Int32.le_iff_toInt_le.mp hb.1
  have b1 : b.toInt ≤ 1500 := Int32.le_iff_toInt_le.mp hb.2
  have t1 : t.toInt ≤ 1500 := Int32.le_iff_toInt_le.mp ht
  have k1 : (1 : Int32).toInt = 1 := rfl
  have k15 : (1500 : Int32).toInt = 1500 := rfl
  have h' := Int32.lt_iff_toInt_lt.mp h
  have e1 := z_ti_add (a := a) (b := b) (by omega) (by omega)
  have e2 := z_ti_add (a := b) (b := 1) (by omega) (by omega)
  have e3 := z_ti_add (a := a) (b := b + 1) (by omega) (by omega)
  simp only [Int32.le_iff_toInt_le]
  omega
theorem q_b_M_next_101 {N : Nat} (hN : zBig ≤ N) {σ : zS} {v1 : Int32} {Q : zS → Prop} (n6 : ∀ i, 0 ≤ σ 86 i ∧ σ 86 i ≤ 6) (h1 : 0 ≤ v1 ∧ v1 ≤ 1500) (hQ : ∀ r, NX1 σ r v1 → Q r) : ∀ (n : Nat) (ρ : zS), FT σ ρ → (0 ≤ ρ 82 4 ∧ ρ 82 4 ≤ 1500) → ρ 82 5 = v1 → (1 ≤ ρ 82 6 ∧ ρ 82 6 ≤ 1500) → v1 + ρ 82 6 ≤ 1500 → zmu (ρ 82 6) < n → zq (zb_M_next_101 N n ρ v1) Q := by
  intro n
  induction n with
  | zero => intro _ _ _ _ _ _ hn; exact absurd hn (Nat.not_lt_zero _)
  | succ n ih =>
    intro ρ hf ts e5 tz su hn
    have b0 : 0 ≤ v1 + ρ 82 6 := (z_sum h1 ⟨Int32.le_trans (by decide) tz.1, Int32.le_trans tz.2 (by decide)⟩).1
    have again : v1 + ρ 82 6 < ρ 82 4 → zq (zb_M_next_133 (zb_M_next_101 N n) N ρ v1) Q := by
      intro c
      have w := z_lt1500 c ts.2 h1 tz
      unfold zb_M_next_133
      have e6 : (zx_up ρ 82 6 (ρ 82 6 + 1)) 82 6 = ρ 82 6 + 1 := by rw [zx_up_same, zu_eq]
      have e : ∀ i, i ≠ 6 → (zx_up ρ 82 6 (ρ 82 6 + 1)) 82 i = ρ 82 i := fun i h => by rw [zx_up_same, zu_ne h]
      refine ih _ (FT.up (by simp) hf) (by rw [e 4 (by decide)]; exact ts) (by rw [e 5 (by decide)]; exact e5) ?_ (by rw [e6]; exact w.1) ?_
      · rw [e6]; exact w.2
      · rw [e6]; exact zmu_up (b := 1501) (by have := tz.2; clear hn ih; grind) hn
    rw [zb_M_next_101]
    refine zq_bind (q_f_M_byteAt ts.2 b0 fun r27 p27 _ => ?_)
    refine zq_bind (q_f_M_isLetter fun r28 p28 => ?_)
    refine zq_ite (fun c => again ?_) fun _ => ?_
    · have := p28.resolve_left c
      exact p27.resolve_left (fun q => by rw [q] at this; exact absurd this.2.1 (by decide))
    · refine zq_bind (q_f_M_byteAt ts.2 b0 fun r30 p30 _ => ?_)
      refine zq_bind (q_f_M_isDigit fun r31 p31 => ?_)
      refine zq_ite (fun _ => ?_) fun c => again ?_
      · have hv : v1 ≤ ρ 82 5 := by rw [e5]; exact Int32.le_refl _
        refine zq_ite (fun c6 => ?_) fun c6 => ?_
        · exact q_b_M_next_161 hN n6 hf ts (by rw [e5]; exact h1) tz (by rw [e5]; exact su) (fun _ => c6) (Or.inr rfl) hv hQ
        · exact q_b_M_next_161 hN n6 hf ts (by rw [e5]; exact h1) tz (by rw [e5]; exact su) (fun q => absurd q (by decide)) (Or.inl rfl) hv hQ
      · have := p31.resolve_left c
        exact p30.resolve_left (fun q => by rw [q] at this; exact absurd this.2.1 (by decide))
theorem TK.mk5 {ρ : zS} (ts : 0 ≤ ρ 82 4 ∧ ρ 82 4 ≤ 1500) (ta : 0 ≤ ρ 82 5 ∧ ρ 82 5 ≤ 1500) (tz : 1 ≤ ρ 82 6 ∧ ρ 82 6 ≤ 2) (su : ρ 82 5 + ρ 82 6 ≤ 1500) (nu : ρ 82 7 = 3 → 0 ≤ ρ 82 8 ∧ ρ 82 8 ≤ 7) (n6 : ∀ i, 0 ≤ ρ 86 i ∧ ρ 86 i ≤ 6) : TK ρ :=
  ⟨ts, ta, ⟨Int32.le_trans (by decide) tz.1, Int32.le_trans tz.2 (by decide)⟩, su, fun _ => Int32.le_trans tz.2 (by decide), fun _ => tz.1, nu, n6⟩
theorem z_add1 {a b t : Int32} (h : a < t) (ht : t ≤ 1500) (ha : 0 ≤ a) : a + 1 ≤ 1500 ∧ 0 ≤ a + 1 := by grind
theorem z_add2 {a t : Int32} (h : a + 1 < t) (ht : t ≤ 1500) (ha : 0 ≤ a ∧ a < 1500) : a + 2 ≤ 1500 := by grind
theorem q_b_M_next_44 {N : Nat} (hN : zBig ≤ N) {σ : zS} {v1 : Int32} {Q : zS → Prop} (n6 : ∀ i, 0 ≤ σ 86 i ∧ σ 86 i ≤ 6) (ts : 0 ≤ σ 82 4 ∧ σ 82 4 ≤ 1500) (h1 : 0 ≤ v1 ∧ v1 ≤ 1500) (hQ : ∀ r, NX1 σ r v1 → Q r) : zq (zb_M_next_44 N σ v1) Q := by
  unfold zb_M_next_44
  generalize hB : zx_up (zx_up (zx_up σ 82 5 v1) 82 6 1) 82 8 0 = B
  have fB : FT σ B := by rw [← hB]; exact FT.up (by simp) (FT.up (by simp) (FT.up (by simp) (FT.refl σ)))
  have b5 : B 82 5 = v1 := by rw [← hB, zx_up_same, zu_ne (by decide), zx_up_same, zu_ne (by decide), zx_up_same, zu_eq]
  have b6 : B 82 6 = 1 := by rw [← hB, zx_up_same, zu_ne (by decide), zx_up_same, zu_eq]
  have b4 : B 82 4 = σ 82 4 := fB.ff 4 (by decide) (by decide) (by decide) (by decide)
  have p1 : 0 ≤ v1 + 1 := by have := h1.1; have := h1.2; clear hQ hB fB; grind
  refine zq_bind (q_f_M_byteAt (by rw [b4]; exact ts.2) h1.1 fun r2 p2 q2 => ?_)
  refine zq_bind (q_f_M_byteAt (by rw [b4]; exact ts.2) p1 fun r3 p3 q3 => ?_)
  refine zq_ite (fun c1 => ?_) fun c1 => ?_
  · have w1 := z_add1 (b := 0) c1 ts.2 h1.1
    -- a state with fields 7, 8 set anew
    have fin2 : ∀ (z k v : Int32) (ρ : zS), FT σ ρ → ρ 82 5 = v1 → ρ 82 6 = z → ρ 82 7 = k → ρ 82 8 = v → (1 ≤ z ∧ z ≤ 2) → v1 + z ≤ 1500 → (k = 3 → 0 ≤ v ∧ v ≤ 7) → Q ρ := by
      intro z k v ρ hf e5 e6 e7 e8 hz hs hn
      refine hQ _ ⟨hf, TK.mk5 (by rw [hf.ff 4 (by decide) (by decide) (by decide) (by decide)]; exact ts) (by rw [e5]; exact h1) (by rw [e6]; exact hz) (by rw [e5, e6]; exact hs) (by rw [e7, e8]; exact hn) (by rw [hf.fr 86 (by decide)]; exact n6), by rw [e5]; exact Int32.le_refl _⟩
    have e361 : ∀ v s0, (s0 = 1 ∨ s0 = 4) → Q (zx_up (zx_up B 82 7 s0) 82 8 v) := fun v s0 h => fin2 1 s0 v _ (FT.up (by simp) (FT.up (by simp) fB)) (by rw [zx_up_same, zu_ne (by decide), zx_up_same, zu_ne (by decide)]; exact b5) (by rw [zx_up_same, zu_ne (by decide), zx_up_same, zu_ne (by decide)]; exact b6) (by rw [zx_up_same, zu_ne (by decide), zx_up_same, zu_eq]) (by rw [zx_up_same, zu_eq]) (by decide) w1.1 (fun q => by rcases h with h | h <;> rw [h] at q <;> exact absurd q (by decide))
    have e348 : ∀ v s0, zq (zb_M_next_348 N B v s0) Q := fun v s0 => by
      unfold zb_M_next_348
      exact zq_ite (fun _ => e361 v 1 (Or.inl rfl)) fun _ => e361 v 4 (Or.inr rfl)
    have e343 : ∀ v, zq (zb_M_next_343 N B v) Q := fun v => e348 v 1
    have e295 : ∀ v, zq (zb_M_next_295 N B v) Q := fun v => by
      unfold zb_M_next_295
      repeat' (first | exact e343 v | exact e348 v 0 | refine zq_ite (fun _ => ?_) fun _ => ?_)
    have e257 : zq (zb_M_next_257 N B r2 r3) Q := by
      unfold zb_M_next_257
      refine zq_ite (fun _ => e295 r2) fun c => ?_
      have e3 : r3 = 61 := Decidable.not_not.mp c
      have l3 := p3.resolve_left (fun q => by rw [e3] at q; exact absurd q (by decide))
      rw [b4] at l3
      have w2 := z_add2 l3 ts.2 ⟨h1.1, Int32.lt_of_lt_of_le c1 ts.2⟩
      have f289 : ∀ v, Q (zx_up (zx_up (zx_up B 82 6 2) 82 7 4) 82 8 v) := fun v => fin2 2 4 v _ (FT.up (by simp) (FT.up (by simp) (FT.up (by simp) fB))) (by rw [zx_up_same, zu_ne (by decide), zx_up_same, zu_ne (by decide), zx_up_same, zu_ne (by decide)]; exact b5) (by rw [zx_up_same, zu_ne (by decide), zx_up_same, zu_ne (by decide), zx_up_same, zu_eq]) (by rw [zx_up_same, zu_ne (by decide), zx_up_same, zu_eq]) (by rw [zx_up_same, zu_eq]) (by decide) w2 (fun q => absurd q (by decide))
      exact zq_ite (fun _ => f289 1001) fun _ => f289 1000
    refine zq_bind (q_f_M_isLetter fun r5 p5 => ?_)
    refine zq_ite (fun _ => ?_) fun _ => ?_
    · refine zq_bind (q_f_M_isDigit fun r7 p7 => ?_)
      refine zq_ite (fun _ => ?_) fun c7 => ?_
      · exact zq_ite (fun _ => e257) fun _ => zq_ite (fun _ => e295 r2) fun _ => e257
      · have d7 := p7.resolve_left c7
        have f239 : ∀ s0, (s0 = 3 → 0 ≤ r2 - 48 ∧ r2 - 48 ≤ 7) → Q (zx_up (zx_up B 82 8 (r2 - 48)) 82 7 s0) := fun s0 hs => fin2 1 s0 (r2 - 48) _ (FT.up (by simp) (FT.up (by simp) fB)) (by rw [zx_up_same, zu_ne (by decide), zx_up_same, zu_ne (by decide)]; exact b5) (by rw [zx_up_same, zu_ne (by decide), zx_up_same, zu_ne (by decide)]; exact b6) (by rw [zx_up_same, zu_eq]) (by rw [zx_up_same, zu_ne (by decide), zx_up_same, zu_eq]) (by decide) w1.1 hs
        have f234 : zq (zb_M_next_234 N (zx_up B 82 8 (r2 - 48))) Q := f239 1 (fun q => absurd q (by decide))
        refine zq_ite (fun _ => f234) fun c8 => ?_
        refine zq_bind (q_f_M_isDigit fun r23 p23 => ?_)
        refine zq_ite (fun _ => f234) fun _ => ?_
        refine zq_bind (q_f_M_isLetter fun r25 p25 => ?_)
        refine zq_ite (fun _ => f239 3 (fun _ => ?_)) fun _ => f234
        have d := d7.2
        clear f234 f239 e257 e295 e343 e348 e361 fin2 hQ p2 p3 p5 p7 p23 p25 hB fB b4 b5 b6 d7 ts h1 p1 w1 c1
        grind
    · exact q_b_M_next_101 hN n6 h1 hQ N B fB (by rw [b4]; exact ts) b5 (by rw [b6]; decide) (by rw [b6]; exact w1.1) (zmu_lt hN _)
  · refine hQ _ ⟨FT.up (by simp) (FT.up (by simp) fB), ?_, ?_⟩
    · have e5 : (zx_up (zx_up B 82 6 0) 82 7 0) 82 5 = v1 := by rw [zx_up_same, zu_ne (by decide), zx_up_same, zu_ne (by decide)]; exact b5
      have e4 : (zx_up (zx_up B 82 6 0) 82 7 0) 82 4 = σ 82 4 := by rw [zx_up_same, zu_ne (by decide), zx_up_same, zu_ne (by decide)]; exact b4
      have e6 : (zx_up (zx_up B 82 6 0) 82 7 0) 82 6 = 0 := by rw [zx_up_same, zu_ne (by decide), zx_up_same, zu_eq]
      have e7 : (zx_up (zx_up B 82 6 0) 82 7 0) 82 7 = 0 := by rw [zx_up_same, zu_eq]
      refine ⟨by rw [e4]; exact ts, by rw [e5]; exact h1, by rw [e6]; decide, by rw [e5, e6, Int32.add_zero]; exact h1.2, by rw [e7]; intro q; exact absurd q (by decide), by rw [e7]; intro q; exact absurd rfl q, by rw [e7]; intro q; exact absurd q (by decide), by rw [zu_other (by decide), zu_other (by decide), fB.fr 86 (by decide)]; exact n6⟩
    · rw [zx_up_same, zu_ne (by decide), zx_up_same, zu_ne (by decide), b5]; exact Int32.le_refl _
theorem q_f_M_next0 {N : Nat} (hN : zBig ≤ N) {σ : zS} {Q : zS → Prop} (n6 : ∀ i, 0 ≤ σ 86 i ∧ σ 86 i ≤ 6) (ts : 0 ≤ σ 82 4 ∧ σ 82 4 ≤ 1500) (h1 : 0 ≤ σ 82 5 + σ 82 6 ∧ σ 82 5 + σ 82 6 ≤ 1500) (hQ : ∀ r, NX1 σ r (σ 82 5 + σ 82 6) → Q r) : zq (zf_M_next N σ) Q := by
  have H : ∀ (n : Nat) (v1 : Int32), (0 ≤ v1 ∧ v1 ≤ 1500) → σ 82 5 + σ 82 6 ≤ v1 → zmu v1 < n → zq (zb_M_next_10 N n σ v1) Q := by
    intro n
    induction n with
    | zero => intro _ _ _ hn; exact absurd hn (Nat.not_lt_zero _)
    | succ n ih =>
      intro v1 hv hm hn
      have out : zq (zb_M_next_44 N σ v1) Q := q_b_M_next_44 hN n6 ts hv (fun r p => hQ r ⟨p.1, p.2.1, Int32.le_trans hm p.2.2⟩)
      rw [zb_M_next_10]
      refine zq_ite (fun _ => out) fun c1 => ?_
      have c1' := Int32.not_le.mp c1
      have w := z_add1 (b := 0) c1' ts.2 hv.1
      have w2 : v1 ≤ v1 + 1 := by have := hv.1; have := Int32.lt_of_lt_of_le c1' ts.2; clear ih hn hQ out hm h1; grind
      have go : zq (zb_M_next_38 (zb_M_next_10 N n) N σ v1) Q := ih (v1 + 1) ⟨w.2, w.1⟩ (Int32.le_trans hm w2) (zmu_up c1 hn)
      refine zq_bind (q_f_M_byteAt ts.2 hv.1 fun r38 _ _ => ?_)
      refine zq_ite (fun _ => go) fun _ => ?_
      refine zq_bind (q_f_M_byteAt ts.2 hv.1 fun r40 _ _ => ?_)
      exact zq_ite (fun _ => out) fun _ => go
  exact H N _ h1 (Int32.le_refl _) (zmu_lt hN _)
/-! THE REFERENCE READS: names and values -/
def JQ (σ0 σ : zS) : Prop :=
  (∀ q, q ≠ 82 → q ≠ 85 → q ≠ 86 → σ q = σ0 q) ∧
  (∀ i, (i < 5 ∨ (11 < i ∧ i ≠ 18)) → σ 82 i = σ0 82 i) ∧
  (TK σ) ∧
  (σ0 82 5 ≤ σ 82 5) ∧
  (¬ σ0 82 9 = 0 → ¬ σ 82 9 = 0) ∧
  (0 ≤ σ 82 18 ∧ σ 82 18 ≤ 3) ∧
  (0 ≤ σ 82 15 ∧ σ 82 15 ≤ 6) ∧
  (0 ≤ σ 82 16 ∧ σ 82 16 ≤ 4) ∧
  (0 ≤ σ 82 17 ∧ σ 82 17 ≤ 4) ∧
  (0 ≤ σ 82 19 ∧ σ 82 19 ≤ 96)
theorem JQ.fr {σ0 σ : zS} (h : JQ σ0 σ) : ∀ q, q ≠ 82 → q ≠ 85 → q ≠ 86 → σ q = σ0 q := h.1
theorem JQ.ff {σ0 σ : zS} (h : JQ σ0 σ) : ∀ i, (i < 5 ∨ (11 < i ∧ i ≠ 18)) → σ 82 i = σ0 82 i := h.2.1
theorem JQ.tk {σ0 σ : zS} (h : JQ σ0 σ) : TK σ := h.2.2.1
theorem JQ.mo {σ0 σ : zS} (h : JQ σ0 σ) : σ0 82 5 ≤ σ 82 5 := h.2.2.2.1
theorem JQ.fa {σ0 σ : zS} (h : JQ σ0 σ) : ¬ σ0 82 9 = 0 → ¬ σ 82 9 = 0 := h.2.2.2.2.1
theorem JQ.lc {σ0 σ : zS} (h : JQ σ0 σ) : 0 ≤ σ 82 18 ∧ σ 82 18 ≤ 3 := h.2.2.2.2.2.1
theorem JQ.nf {σ0 σ : zS} (h : JQ σ0 σ) : 0 ≤ σ 82 15 ∧ σ 82 15 ≤ 6 := h.2.2.2.2.2.2.1
theorem JQ.nl {σ0 σ : zS} (h : JQ σ0 σ) : 0 ≤ σ 82 16 ∧ σ 82 16 ≤ 4 := h.2.2.2.2.2.2.2.1
theorem JQ.nt {σ0 σ : zS} (h : JQ σ0 σ) : 0 ≤ σ 82 17 ∧ σ 82 17 ≤ 4 := h.2.2.2.2.2.2.2.2.1
theorem JQ.lt {σ0 σ : zS} (h : JQ σ0 σ) : 0 ≤ σ 82 19 ∧ σ 82 19 ≤ 96 := h.2.2.2.2.2.2.2.2.2
theorem z_ge {a b : Int32} (ha : 0 ≤ a ∧ a ≤ 1500) (hb : 0 ≤ b ∧ b ≤ 1500) : (0 ≤ a + b) ∧ a ≤ a + b ∧ (1 ≤ b → a < a + b) ∧ (∀ v, 0 ≤ v → v < b → a + b ≤ 1500 → 0 ≤ a + v ∧ a + v < 1500) := by
  have a0 : 0 ≤ a.toInt := Int32.le_iff_toInt_le.mp ha.1
  have a1 : a.toInt ≤ 1500 := Int32.le_iff_toInt_le.mp ha.2
  have b0 : 0 ≤ b.toInt := Int32.le_iff_toInt_le.mp hb.1
  have b1 : b.toInt ≤ 1500 := Int32.le_iff_toInt_le.mp hb.2
  have k0 : (0 : Int32).toInt = 0 := rfl
  have k1 : (1 : Int32).toInt = 1 := rfl
  have k15 : (1500 : Int32).toInt = 1500 := rfl
  have e1 := z_ti_add (a := a) (b := b) (by omega) (by omega)
  refine ⟨?_, ?_, ?_, ?_⟩
  · simp only [Int32.le_iff_toInt_le]; omega
  · simp only [Int32.le_iff_toInt_le]; omega
  · simp only [Int32.le_iff_toInt_le, Int32.lt_iff_toInt_lt]; omega
  · intro v v0 v1 h
    have v0' := Int32.le_iff_toInt_le.mp v0
    have v1' := Int32.lt_iff_toInt_lt.mp v1
    have h' := Int32.le_iff_toInt_le.mp h
    have e2 := z_ti_add (a := a) (b := v) (by omega) (by omega)
    simp only [Int32.le_iff_toInt_le, Int32.lt_iff_toInt_lt]; omega
theorem JQ.refl {σ0 σ : zS} (h : JQ σ0 σ) : JQ σ σ := ⟨fun _ _ _ _ => rfl, fun _ _ => rfl, h.tk, Int32.le_refl _, id, h.lc, h.nf, h.nl, h.nt, h.lt⟩
theorem JQ.trans {σ0 σ r : zS} (h : JQ σ0 σ) (k : JQ σ r) : JQ σ0 r := ⟨fun q a b c => (k.fr q a b c).trans (h.fr q a b c), fun i a => (k.ff i a).trans (h.ff i a), k.tk, Int32.le_trans h.mo k.mo, fun q => k.fa (h.fa q), k.lc, k.nf, k.nl, k.nt, k.lt⟩
theorem q_f_M_next {N : Nat} (hN : zBig ≤ N) {σ0 σ : zS} {Q : zS → Prop} (h : JQ σ0 σ) (hQ : ∀ r, JQ σ0 r → FT σ r → (¬ σ 82 7 = 0 → σ 82 5 < r 82 5) → Q r) : zq (zf_M_next N σ) Q := by
  have g := z_ge h.tk.ta h.tk.tz
  refine q_f_M_next0 hN h.tk.n6 h.tk.ts ⟨g.1, h.tk.su⟩ fun r p => ?_
  obtain ⟨hf, tk, mo⟩ := p
  have e := fun i a b c d => hf.ff i a b c d
  refine hQ r ⟨fun q a b c => (hf.fr q a).trans (h.fr q a b c), fun i a => (hf.ff i (by omega) (by omega) (by omega) (by omega)).trans (h.ff i a), tk, Int32.le_trans h.mo (Int32.le_trans g.2.1 mo), by rw [e 9 (by decide) (by decide) (by decide) (by decide)]; exact h.fa, by rw [e 18 (by decide) (by decide) (by decide) (by decide)]; exact h.lc, by rw [e 15 (by decide) (by decide) (by decide) (by decide)]; exact h.nf, by rw [e 16 (by decide) (by decide) (by decide) (by decide)]; exact h.nl, by rw [e 17 (by decide) (by decide) (by decide) (by decide)]; exact h.nt, by rw [e 19 (by decide) (by decide) (by decide) (by decide)]; exact h.lt⟩ hf (fun q => ?_)
  exact Int32.lt_of_lt_of_le (g.2.2.1 (h.tk.po q)) mo
/-- only the fault's words have changed -/
def FF (σ r : zS) : Prop :=
  (∀ q, q ≠ 82 → r q = σ q) ∧
  (∀ i, i ≠ 9 → i ≠ 10 → i ≠ 11 → r 82 i = σ 82 i)
theorem FF.fr {σ r : zS} (h : FF σ r) : ∀ q, q ≠ 82 → r q = σ q := h.1
theorem FF.ff {σ r : zS} (h : FF σ r) : ∀ i, i ≠ 9 → i ≠ 10 → i ≠ 11 → r 82 i = σ 82 i := h.2
theorem FF.jq {σ0 σ r : zS} (h : JQ σ0 σ) (f : FF σ r) (k : ¬ r 82 9 = 0) : JQ σ0 r := by
  have e := f.ff
  have e4 := e 4 (by decide) (by decide) (by decide); have e5 := e 5 (by decide) (by decide) (by decide); have e6 := e 6 (by decide) (by decide) (by decide); have e7 := e 7 (by decide) (by decide) (by decide); have e8 := e 8 (by decide) (by decide) (by decide)
  obtain ⟨t1, t2, t3, t4, t5, t6, t7, t8⟩ := h.tk
  refine ⟨fun q a b c => (f.fr q a).trans (h.fr q a b c), fun i a => (f.ff i (by omega) (by omega) (by omega)).trans (h.ff i a), ⟨by rw [e4]; exact t1, by rw [e5]; exact t2, by rw [e6]; exact t3, by rw [e5, e6]; exact t4, by rw [e7, e6]; exact t5, by rw [e7, e6]; exact t6, by rw [e7, e8]; exact t7, by rw [f.fr 86 (by decide)]; exact t8⟩, by rw [e5]; exact h.mo, fun _ => k, by rw [e 18 (by decide) (by decide) (by decide)]; exact h.lc, by rw [e 15 (by decide) (by decide) (by decide)]; exact h.nf, by rw [e 16 (by decide) (by decide) (by decide)]; exact h.nl, by rw [e 17 (by decide) (by decide) (by decide)]; exact h.nt, by rw [e 19 (by decide) (by decide) (by decide)]; exact h.lt⟩
theorem q_f_M_fail {σ : zS} {x1 : Int32} {Q : zS → Prop} (hQ : ∀ r, FF σ r → ¬ r 82 9 = 0 → Q r) : zq (zf_M_fail σ x1) Q := by
  unfold zf_M_fail
  refine zq_ite (fun c => hQ _ ⟨fun _ _ => rfl, fun _ _ _ _ => rfl⟩ c) fun _ => hQ _ ⟨fun q a => by rw [zu_other a, zu_other a, zu_other a], fun i a b c => by rw [zx_up_same, zu_ne c, zx_up_same, zu_ne b, zx_up_same, zu_ne a]⟩ ?_
  rw [zx_up_same, zu_ne (by decide), zx_up_same, zu_ne (by decide), zx_up_same, zu_eq]; decide
theorem q_f_M_cannot {σ : zS} {Q : zS → Prop} (hQ : ∀ r, FF σ r → ¬ r 82 9 = 0 → Q r) : zq (zf_M_cannot σ) Q := by
  unfold zf_M_cannot
  have e : ∀ s, zq (zb_M_cannot_14 σ s) Q := fun s => by unfold zb_M_cannot_14; exact zq_bind (q_f_M_fail fun r a b => hQ r a b)
  exact zq_ite (fun _ => e 2) fun _ => e 1
theorem q_f_M_isSign {σ : zS} {x1 : Int32} {Q : Int32 → Prop} (hQ : ∀ r, (r = 0 ∨ (σ 82 7 = 4 ∧ σ 82 8 = x1)) → Q r) : zq (zf_M_isSign σ x1) Q := by
  unfold zf_M_isSign
  exact zq_ite (fun _ => hQ _ (Or.inl rfl)) fun c => zq_ite (fun _ => hQ _ (Or.inl rfl)) fun d => hQ _ (Or.inr ⟨Decidable.not_not.mp c, Decidable.not_not.mp d⟩)
theorem q_f_M_isWord {σ : zS} {x1 : Int32} {Q : Int32 → Prop} (hQ : ∀ r, (r = 0 ∨ (σ 82 7 = 5 ∧ σ 82 8 = x1)) → Q r) : zq (zf_M_isWord σ x1) Q := by
  unfold zf_M_isWord
  exact zq_ite (fun _ => hQ _ (Or.inl rfl)) fun c => zq_ite (fun _ => hQ _ (Or.inl rfl)) fun d => hQ _ (Or.inr ⟨Decidable.not_not.mp c, Decidable.not_not.mp d⟩)
theorem q_f_M_take {N : Nat} (hN : zBig ≤ N) {σ0 σ : zS} {x1 : Int32} {Q : zS → Prop} (h : JQ σ0 σ) (hQ : ∀ r, JQ σ0 r → Q r) : zq (zf_M_take N σ x1) Q := by
  unfold zf_M_take
  refine zq_ite (fun _ => ?_) fun _ => hQ _ h
  refine zq_bind (q_f_M_isSign fun r2 _ => ?_)
  refine zq_ite (fun _ => zq_bind (q_f_M_cannot fun r a b => hQ r (FF.jq h a b))) fun _ => zq_bind (q_f_M_next hN h fun r a _ _ => hQ r a)
theorem q_f_M_nextIfWell {N : Nat} (hN : zBig ≤ N) {σ0 σ : zS} {Q : zS → Prop} (h : JQ σ0 σ) (hQ : ∀ r, JQ σ0 r → (σ 82 9 = 0 → ¬ σ 82 7 = 0 → σ 82 5 < r 82 5) → (¬ σ 82 9 = 0 → r = σ) → Q r) : zq (zf_M_nextIfWell N σ) Q := by
  unfold zf_M_nextIfWell
  refine zq_ite (fun c => hQ _ h (fun q => absurd q c) (fun _ => rfl)) fun c => zq_bind (q_f_M_next hN h fun r a _ b => hQ r a (fun _ => b) (fun q => absurd q c))
theorem z_fi {a b c : Int32} (ha : 0 ≤ a ∧ a ≤ 17) (hb : 0 ≤ b ∧ b < 96) (hc : 0 ≤ c ∧ c < 6) : (0 ≤ a + b ∧ a + b < 200) ∧ (0 ≤ 6 * (a + b) + c ∧ 6 * (a + b) + c < 1200) := by
  have a0 : 0 ≤ a.toInt := Int32.le_iff_toInt_le.mp ha.1
  have a1 : a.toInt ≤ 17 := Int32.le_iff_toInt_le.mp ha.2
  have b0 : 0 ≤ b.toInt := Int32.le_iff_toInt_le.mp hb.1
  have b1 : b.toInt < 96 := Int32.lt_iff_toInt_lt.mp hb.2
  have c0 : 0 ≤ c.toInt := Int32.le_iff_toInt_le.mp hc.1
  have c1 : c.toInt < 6 := Int32.lt_iff_toInt_lt.mp hc.2
  have k0 : (0 : Int32).toInt = 0 := rfl
  have k6 : (6 : Int32).toInt = 6 := rfl
  have k2 : (200 : Int32).toInt = 200 := rfl
  have k12 : (1200 : Int32).toInt = 1200 := rfl
  have e1 := z_ti_add (a := a) (b := b) (by omega) (by omega)
  have e2 := z_ti_mul (a := 6) (b := a + b) (by rw [k6, e1]; omega) (by rw [k6, e1]; omega)
  rw [k6, e1] at e2
  have e3 := z_ti_add (a := 6 * (a + b)) (b := c) (by omega) (by omega)
  simp only [Int32.le_iff_toInt_le, Int32.lt_iff_toInt_lt]
  omega
theorem z_ca {a c : Int32} (ha : 0 ≤ a ∧ a ≤ 112) (hc : 0 ≤ c ∧ c < 6) : 0 ≤ 6 * a + c ∧ 6 * a + c < 1200 := by
  have a0 : 0 ≤ a.toInt := Int32.le_iff_toInt_le.mp ha.1
  have a1 : a.toInt ≤ 112 := Int32.le_iff_toInt_le.mp ha.2
  have c0 : 0 ≤ c.toInt := Int32.le_iff_toInt_le.mp hc.1
  have c1 : c.toInt < 6 := Int32.lt_iff_toInt_lt.mp hc.2
  have k0 : (0 : Int32).toInt = 0 := rfl
  have k6 : (6 : Int32).toInt = 6 := rfl
  have k12 : (1200 : Int32).toInt = 1200 := rfl
  have e2 := z_ti_mul (a := 6) (b := a) (by rw [k6]; omega) (by rw [k6]; omega)
  rw [k6] at e2
  have e3 := z_ti_add (a := 6 * a) (b := c) (by omega) (by omega)
  simp only [Int32.le_iff_toInt_le, Int32.lt_iff_toInt_lt]
  omega
theorem q_f_M_find {N : Nat} (hN : zBig ≤ N) {σ0 σ : zS} {x1 x2 : Int32} {Q : Int32 → Prop} (h : JQ σ0 σ) (h7 : σ 82 7 = 2) (h1 : 0 ≤ x1 ∧ x1 ≤ 17) (h2 : 0 ≤ x2 ∧ x2 ≤ 96) (hQ : ∀ r, (r = -1 ∨ (0 ≤ r ∧ r < x2)) → Q r) : zq (zf_M_find N σ x1 x2) Q := by
  have z6 := h.tk.nm h7
  have g := z_ge h.tk.ta h.tk.tz
  have K32 : ∀ (k2 : zS → Int32 → Int32 → Int32 → Option Int32) (v3 : Int32), 0 ≤ v3 ∧ v3 < x2 → zq (k2 σ x1 x2 (v3 + 1)) Q → ∀ (n : Nat) (v4 v5 : Int32), 0 ≤ v5 → zmu v5 < n → zq (zb_M_find_32 k2 N n σ x1 x2 v3 v4 v5) Q := by
    intro k2 v3 h3 hk n
    have out : ∀ v4, zq (zb_M_find_88 k2 N σ x1 x2 v3 v4) Q := fun v4 => by
      unfold zb_M_find_88
      exact zq_ite (fun _ => hk) fun _ => hQ _ (Or.inr h3)
    induction n with
    | zero => intro _ _ _ hn; exact absurd hn (Nat.not_lt_zero _)
    | succ n ih =>
      intro v4 v5 h5 hn
      rw [zb_M_find_32]
      refine zq_ite (fun _ => out v4) fun c1 => ?_
      have c1' := Int32.not_le.mp c1
      refine zq_ite (fun _ => out v4) fun _ => ?_
      refine zq_chk (z_fi h1 ⟨h3.1, Int32.lt_of_lt_of_le h3.2 h2.2⟩ ⟨h5, Int32.lt_of_lt_of_le c1' z6⟩).2 fun _ => ?_
      refine zq_chk (g.2.2.2 v5 h5 c1' h.tk.su) fun _ => ?_
      exact zq_ite (fun _ => ih 0 (v5 + 1) (by (first | with_reducible assumption | omega | grind)) (zmu_up c1 hn)) fun _ => ih 1 (v5 + 1) (by (first | with_reducible assumption | omega | grind)) (zmu_up c1 hn)
  have K2 : ∀ (n : Nat) (v3 : Int32), 0 ≤ v3 → zmu v3 < n → zq (zb_M_find_2 N n σ x1 x2 v3) Q := by
    intro n
    induction n with
    | zero => intro _ _ hn; exact absurd hn (Nat.not_lt_zero _)
    | succ n ih =>
      intro v3 h3 hn
      rw [zb_M_find_2]
      refine zq_ite (fun _ => hQ _ (Or.inl rfl)) fun c1 => ?_
      have c1' := Int32.not_le.mp c1
      have r := ih (v3 + 1) (by (first | with_reducible assumption | omega | grind)) (zmu_up c1 hn)
      refine zq_chk (z_fi (c := 0) h1 ⟨h3, Int32.lt_of_lt_of_le c1' h2.2⟩ (by decide)).1 fun _ => ?_
      exact zq_ite (fun _ => K32 _ v3 ⟨h3, c1'⟩ r N 0 0 (by decide) (zmu_lt hN _)) fun _ => K32 _ v3 ⟨h3, c1'⟩ r N 1 0 (by decide) (zmu_lt hN _)
  exact K2 N 0 (by decide) (zmu_lt hN _)
theorem q_f_M_call {N : Nat} (hN : zBig ≤ N) {σ0 σ : zS} {x1 : Int32} {Q : zS → Prop} (h : JQ σ0 σ) (h7 : σ 82 7 = 2) (h1 : 0 ≤ x1 ∧ x1 ≤ 112) (hQ : ∀ r, JQ σ0 r → r 82 = σ 82 → Q r) : zq (zf_M_call N σ x1) Q := by
  have z6 := h.tk.nm h7
  have g := z_ge h.tk.ta h.tk.tz
  have up : ∀ q i v (ρ : zS), (q = 85 ∨ (q = 86 ∧ 0 ≤ v ∧ v ≤ 6)) → (JQ σ0 ρ ∧ ρ 82 = σ 82) → JQ σ0 (zx_up ρ q i v) ∧ (zx_up ρ q i v) 82 = σ 82 := by
    intro q i v ρ hq hj
    have e : (zx_up ρ q i v) 82 = ρ 82 := zu_other (by omega)
    obtain ⟨⟨a1, a2, a3, a4, a5, a6, a7, a8, a9, a10⟩, b⟩ := hj
    obtain ⟨t1, t2, t3, t4, t5, t6, t7, t8⟩ := a3
    have n6 : ∀ j, 0 ≤ (zx_up ρ q i v) 86 j ∧ (zx_up ρ q i v) 86 j ≤ 6 := by
      intro j
      rcases hq with rfl | ⟨rfl, hv⟩
      · rw [zu_other (by decide)]; exact t8 j
      · rw [zx_up_same]
        by_cases w : j = i
        · rw [w, zu_eq]; exact hv
        · rw [zu_ne w]; exact t8 j
    refine ⟨⟨fun p x y z => by rw [zu_other (by omega)]; exact a1 p x y z, by rw [e]; exact a2, ⟨by rw [e]; exact t1, by rw [e]; exact t2, by rw [e]; exact t3, by rw [e]; exact t4, by rw [e]; exact t5, by rw [e]; exact t6, by rw [e]; exact t7, n6⟩, by rw [e]; exact a4, by rw [e]; exact a5, by rw [e]; exact a6, by rw [e]; exact a7, by rw [e]; exact a8, by rw [e]; exact a9, by rw [e]; exact a10⟩, e.trans b⟩
  have K : ∀ (n : Nat) (ρ : zS) (v2 : Int32), (JQ σ0 ρ ∧ ρ 82 = σ 82) → 0 ≤ v2 → zmu v2 < n → zq (zb_M_call_12 N n ρ x1 v2) Q := by
    intro n
    induction n with
    | zero => intro _ _ _ _ hn; exact absurd hn (Nat.not_lt_zero _)
    | succ n ih =>
      intro ρ v2 hj h2 hn
      have e := hj.2
      rw [zb_M_call_12, e]
      refine zq_ite (fun _ => hQ _ hj.1 hj.2) fun c1 => ?_
      have c1' := Int32.not_le.mp c1
      have b2 : 0 ≤ v2 ∧ v2 < 6 := ⟨h2, Int32.lt_of_lt_of_le c1' z6⟩
      refine zq_chk (g.2.2.2 v2 h2 c1' h.tk.su) fun _ => ?_
      refine zq_chk (z_ca h1 b2) fun _ => ?_
      exact ih _ (v2 + 1) (up _ _ _ _ (Or.inl rfl) hj) (by (first | with_reducible assumption | omega | grind)) (zmu_up c1 hn)
  unfold zf_M_call
  refine zq_chk ⟨h1.1, Int32.lt_of_le_of_lt h1.2 (by decide)⟩ fun _ => ?_
  exact K N _ 0 (up _ _ _ _ (Or.inr ⟨rfl, h.tk.tz.1, z6⟩) ⟨h, rfl⟩) (by decide) (zmu_lt hN _)
theorem q_f_M_fieldHere {N : Nat} (hN : zBig ≤ N) {σ0 σ : zS} {Q : Int32 → Prop} (h : JQ σ0 σ) (h7 : σ 82 7 = 2) (hQ : ∀ r, (r = -1 ∨ (0 ≤ r ∧ r < σ 82 15)) → Q r) : zq (zf_M_fieldHere N σ) Q := by
  unfold zf_M_fieldHere
  exact zq_bind (q_f_M_find hN h h7 (by decide) ⟨h.nf.1, Int32.le_trans h.nf.2 (by decide)⟩ hQ)
theorem q_f_M_lockHere {N : Nat} (hN : zBig ≤ N) {σ0 σ : zS} {Q : Int32 → Prop} (h : JQ σ0 σ) (h7 : σ 82 7 = 2) (hQ : ∀ r, (r = -1 ∨ (0 ≤ r ∧ r < σ 82 16)) → Q r) : zq (zf_M_lockHere N σ) Q := by
  unfold zf_M_lockHere
  exact zq_bind (q_f_M_find hN h h7 (by decide) ⟨h.nl.1, Int32.le_trans h.nl.2 (by decide)⟩ hQ)
theorem q_f_M_threadHere {N : Nat} (hN : zBig ≤ N) {σ0 σ : zS} {Q : Int32 → Prop} (h : JQ σ0 σ) (h7 : σ 82 7 = 2) (hQ : ∀ r, (r = -1 ∨ (0 ≤ r ∧ r < σ 82 17)) → Q r) : zq (zf_M_threadHere N σ) Q := by
  unfold zf_M_threadHere
  exact zq_bind (q_f_M_find hN h h7 (by decide) ⟨h.nt.1, Int32.le_trans h.nt.2 (by decide)⟩ hQ)
theorem q_f_M_isTold {N : Nat} (hN : zBig ≤ N) {σ0 σ : zS} {Q : Int32 → Prop} (h : JQ σ0 σ) (h7 : σ 82 7 = 2) (hQ : ∀ r, Q r) : zq (zf_M_isTold N σ) Q := by
  unfold zf_M_isTold
  refine zq_bind (q_f_M_fieldHere hN h h7 fun r1 _ => zq_ite (fun _ => hQ _) fun _ => zq_bind (q_f_M_lockHere hN h h7 fun r3 _ => zq_ite (fun _ => hQ _) fun _ => zq_bind (q_f_M_threadHere hN h h7 fun r5 _ => zq_ite (fun _ => hQ _) fun _ => hQ _)))
theorem JQ.up18 {σ0 σ : zS} {v : Int32} (hv : 0 ≤ v ∧ v ≤ 3) (h : JQ σ0 σ) : JQ σ0 (zx_up σ 82 18 v) := by
  have e : ∀ i, i ≠ 18 → (zx_up σ 82 18 v) 82 i = σ 82 i := fun i h => by rw [zx_up_same, zu_ne h]
  obtain ⟨a1, a2, a3, a4, a5, a6, a7, a8, a9, a10⟩ := h
  obtain ⟨t1, t2, t3, t4, t5, t6, t7, t8⟩ := a3
  refine ⟨fun p x y z => by rw [zu_other x]; exact a1 p x y z, fun i hi => by rw [e i (by omega)]; exact a2 i hi, ⟨by rw [e 4 (by decide)]; exact t1, by rw [e 5 (by decide)]; exact t2, by rw [e 6 (by decide)]; exact t3, by rw [e 5 (by decide), e 6 (by decide)]; exact t4, by rw [e 7 (by decide), e 6 (by decide)]; exact t5, by rw [e 7 (by decide), e 6 (by decide)]; exact t6, by rw [e 7 (by decide), e 8 (by decide)]; exact t7, by rw [zu_other (by decide)]; exact t8⟩, by rw [e 5 (by decide)]; exact a4, by rw [e 9 (by decide)]; exact a5, by rw [zx_up_same, zu_eq]; exact hv, by rw [e 15 (by decide)]; exact a7, by rw [e 16 (by decide)]; exact a8, by rw [e 17 (by decide)]; exact a9, by rw [e 19 (by decide)]; exact a10⟩
theorem q_f_M_local {N : Nat} (hN : zBig ≤ N) {σ0 σ : zS} {x1 : Int32} {Q : Int32 × zS → Prop} (h : JQ σ0 σ) (h7 : σ 82 7 = 2) (hQ : ∀ r, JQ σ0 r.2 → (0 ≤ r.1 ∧ r.1 ≤ 2) → (∀ i, i < 9 → r.2 82 i = σ 82 i) → Q r) : zq (zf_M_local N σ x1) Q := by
  unfold zf_M_local
  have lc := h.lc
  refine zq_bind (q_f_M_find hN h h7 (by decide) ⟨lc.1, Int32.le_trans lc.2 (by decide)⟩ fun r1 p1 => ?_)
  refine zq_ite (fun _ => ?_) fun c => ?_
  · refine zq_ite (fun _ => ?_) fun _ => zq_bind (q_f_M_fail fun r a b => hQ _ (FF.jq h a b) (show (0 : Int32) ≤ 0 ∧ (0 : Int32) ≤ 2 by decide) (fun i hi => a.ff i (by omega) (by omega) (by omega)))
    refine zq_ite (fun c3 => ?_) fun _ => zq_bind (q_f_M_fail fun r a b => hQ _ (FF.jq h a b) (show (0 : Int32) ≤ 0 ∧ (0 : Int32) ≤ 2 by decide) (fun i hi => a.ff i (by omega) (by omega) (by omega)))
    have l2 : (0 ≤ 14 + σ 82 18 ∧ 14 + σ 82 18 ≤ 112) ∧ (0 ≤ σ 82 18 + 1 ∧ σ 82 18 + 1 ≤ 3) ∧ (0 ≤ σ 82 18 + 1 - 1 ∧ σ 82 18 + 1 - 1 ≤ 2) := by
      generalize σ 82 18 = L at *
      clear hQ h h7 p1
      grind
    refine zq_bind (q_f_M_call hN h h7 l2.1 fun r5 j5 e5 => ?_)
    rw [e5]
    exact hQ _ (JQ.up18 l2.2.1 j5) l2.2.2 (fun i hi => by show (zx_up r5 82 18 _) 82 i = _; rw [zx_up_same, zu_ne (by omega), e5])
  · have := p1.resolve_left c
    refine hQ _ h ⟨this.1, ?_⟩ (fun _ _ => rfl)
    have a := this.2
    show r1 ≤ 2
    generalize σ 82 18 = L at *
    clear hQ h h7 p1
    grind
theorem q_f_M_value {N : Nat} (hN : zBig ≤ N) {σ0 σ : zS} {x1 : Int32} {Q : Int32 × zS → Prop} (h : JQ σ0 σ) (hQ : ∀ r, JQ σ0 r.2 → (r.2 82 9 = 0 → r.1 ≤ 10) → Q r) : zq (zf_M_value N σ x1) Q := by
  have e53 : ∀ (ρ : zS) v, JQ σ0 ρ → (ρ 82 9 = 0 → v ≤ 10) → zq (zb_M_value_53 N ρ v) Q := by
    intro ρ v hj hv
    unfold zb_M_value_53
    refine zq_ite (fun c => hQ _ hj (fun q => absurd q c)) fun c => zq_bind (q_f_M_next hN hj fun r a _ _ => hQ _ a (fun _ => hv (Decidable.not_not.mp c)))
  have e41 : zq (zb_M_value_41 N σ (σ 82 8)) Q := by
    unfold zb_M_value_41
    refine zq_ite (fun c => e53 _ _ h (fun _ => Int32.le_trans (h.tk.nu c).2 (by decide))) fun _ => zq_bind (q_f_M_cannot fun r a b => e53 _ _ (FF.jq h a b) (fun q => absurd q b))
  unfold zf_M_value
  refine zq_ite (fun _ => ?_) fun c => hQ _ h (fun q => absurd q c)
  refine zq_ite (fun _ => e41) fun c7 => ?_
  have h7 := Decidable.not_not.mp c7
  refine zq_bind (q_f_M_isTold hN h h7 fun r7 => ?_)
  refine zq_ite (fun _ => e41) fun _ => zq_bind (q_f_M_local hN h h7 fun r9 j9 p9 _ => e53 _ _ j9 (fun _ => ?_))
  generalize r9.1 = L at *
  clear hQ e53 e41 h h7 j9
  grind
theorem q_f_M_lockNamed {N : Nat} (hN : zBig ≤ N) {σ0 σ : zS} {Q : Int32 × zS → Prop} (h : JQ σ0 σ) (hQ : ∀ r, JQ σ0 r.2 → (-1 ≤ r.1 ∧ r.1 ≤ 3) → (r.2 82 9 = 0 → 0 ≤ r.1) → Q r) : zq (zf_M_lockNamed N σ) Q := by
  have e63 : ∀ (ρ : zS) v, JQ σ0 ρ → (-1 ≤ v ∧ v ≤ 3) → (ρ 82 9 = 0 → 0 ≤ v) → zq (zb_M_lockNamed_63 N ρ v) Q := by
    intro ρ v hj hv hp
    unfold zb_M_lockNamed_63
    refine zq_ite (fun c => hQ _ hj hv (fun q => absurd q c)) fun c => zq_bind (q_f_M_next hN hj fun r a _ _ => hQ _ a hv (fun _ => hp (Decidable.not_not.mp c)))
  have e46 : ∀ v, (-1 ≤ v ∧ v ≤ 3) → zq (zb_M_lockNamed_46 N σ v) Q := fun v hv => by
    unfold zb_M_lockNamed_46
    exact zq_bind (q_f_M_cannot fun r a b => e63 _ _ (FF.jq h a b) hv (fun q => absurd q b))
  have e53 : ∀ v, (-1 ≤ v ∧ v ≤ 3) → zq (zb_M_lockNamed_53 N σ v) Q := fun v hv => by
    unfold zb_M_lockNamed_53
    refine zq_ite (fun c => e63 _ _ h hv (fun _ => by have := hv.1; clear hQ e63 e46 h; grind)) fun _ => zq_bind (q_f_M_fail fun r a b => e63 _ _ (FF.jq h a b) hv (fun q => absurd q b))
  have e25 : ∀ v, (-1 ≤ v ∧ v ≤ 3) → zq (zb_M_lockNamed_25 N σ v) Q := fun v hv => by
    unfold zb_M_lockNamed_25
    refine zq_ite (fun _ => e46 v hv) fun c7 => ?_
    refine zq_ite (fun _ => e53 v hv) fun _ => zq_bind (q_f_M_isTold hN h (Decidable.not_not.mp c7) fun r10 => zq_ite (fun _ => e53 v hv) fun _ => e46 v hv)
  unfold zf_M_lockNamed
  refine zq_ite (fun _ => ?_) fun c => hQ _ h (show (-1 : Int32) ≤ 0 ∧ (0 : Int32) ≤ 3 by decide) (fun _ => show (0 : Int32) ≤ 0 by decide)
  refine zq_ite (fun _ => e25 _ (by decide)) fun c7 => ?_
  refine zq_bind (q_f_M_lockHere hN h (Decidable.not_not.mp c7) fun r12 p12 => e25 _ ?_)
  have nl := h.nl
  generalize σ 82 16 = L at *
  clear hQ e63 e53 e46 e25 h
  grind
/-! WAYS THAT ARE OPEN: lists in one row of numbers -/
def Ch (ch : Nat → Int32) : List Nat → Int32 → Prop
  | [], h => h = -1
  | k :: l, h => (k < 48 ∧ h.toInt = (k : Int)) ∧ Ch ch l (ch k)
theorem Ch.congr {ch ch' : Nat → Int32} : ∀ {l : List Nat} {h : Int32}, (∀ k, k ∈ l → ch' k = ch k) → Ch ch l h → Ch ch' l h := by
  intro l
  induction l with
  | nil => intro h _ c; exact c
  | cons k l ih =>
    intro h e c
    refine ⟨c.1, ?_⟩
    rw [e k List.mem_cons_self]
    exact ih (fun j hj => e j (List.mem_cons_of_mem _ hj)) c.2
theorem Ch.lt {ch : Nat → Int32} : ∀ {l : List Nat} {h : Int32}, Ch ch l h → ∀ k, k ∈ l → k < 48 := by
  intro l
  induction l with
  | nil => intro h _ k hk; cases hk
  | cons j l ih =>
    intro h c k hk
    cases hk with
    | head => exact c.1.1
    | tail _ hk => exact ih c.2 k hk
theorem Ch.det {ch : Nat → Int32} : ∀ {l l' : List Nat} {h : Int32}, Ch ch l h → Ch ch l' h → l = l' := by
  intro l
  induction l with
  | nil =>
    intro l' h c c'
    cases l' with
    | nil => rfl
    | cons k l' =>
      have : h = -1 := c
      rw [this] at c'
      have := c'.1.2
      rw [show (-1 : Int32).toInt = -1 from rfl] at this
      omega
  | cons k l ih =>
    intro l' h c c'
    cases l' with
    | nil =>
      have : h = -1 := c'
      rw [this] at c
      have := c.1.2
      rw [show (-1 : Int32).toInt = -1 from rfl] at this
      omega
    | cons k' l' =>
      have e : k = k' := by have := c.1.2; have := c'.1.2; omega
      subst e
      rw [ih c.2 c'.2]
theorem Ch.mem {ch : Nat → Int32} : ∀ {l : List Nat} {h : Int32}, Ch ch l h → ∀ k, k ∈ l → ∃ m, Ch ch (k :: m) (Int32.ofNat k) ∧ m.length < l.length := by
  intro l
  induction l with
  | nil => intro h _ k hk; cases hk
  | cons j l ih =>
    intro h c k hk
    cases hk with
    | head => exact ⟨l, ⟨⟨c.1.1, by rw [Int32.toInt_ofNat_of_lt (by have := c.1.1; omega)]⟩, c.2⟩, Nat.lt_succ_self _⟩
    | tail _ hk =>
      obtain ⟨m, h1, h2⟩ := ih c.2 k hk
      exact ⟨m, h1, Nat.lt_succ_of_lt h2⟩
theorem Ch.nodup {ch : Nat → Int32} : ∀ {l : List Nat} {h : Int32}, Ch ch l h → l.Nodup := by
  intro l
  induction l with
  | nil => intro h _; exact List.nodup_nil
  | cons k l ih =>
    intro h c
    refine List.nodup_cons.mpr ⟨fun hk => ?_, ih c.2⟩
    obtain ⟨m, h1, h2⟩ := Ch.mem c.2 k hk
    have := Ch.det (l := l) (l' := m) c.2 h1.2
    rw [this] at h2
    exact Nat.lt_irrefl _ h2
theorem z_nodup : ∀ (n : Nat) (l : List Nat), l.Nodup → (∀ k, k ∈ l → k < n) → l.length ≤ n := by
  intro n
  induction n with
  | zero => intro l _ h; cases l with
    | nil => exact Nat.le_refl _
    | cons k l => exact absurd (h k List.mem_cons_self) (Nat.not_lt_zero _)
  | succ n ih =>
    intro l hd h
    by_cases q : n ∈ l
    · have h1 := ih (l.erase n) (hd.erase n) (fun k hk => by
        have a := h k (List.mem_of_mem_erase hk)
        have b : k ≠ n := fun e => by subst e; exact (hd.mem_erase_iff.mp hk).1 rfl
        omega)
      rw [List.length_erase_of_mem q] at h1
      omega
    · exact Nat.le_succ_of_le (ih l hd (fun k hk => by
        have a := h k hk
        have b : k ≠ n := fun e => q (e ▸ hk)
        omega))
theorem Ch.len {ch : Nat → Int32} {l : List Nat} {h : Int32} (c : Ch ch l h) : l.length ≤ 48 := z_nodup 48 l c.nodup c.lt
theorem Ch.append {ch : Nat → Int32} {op : Int32} {lo : List Nat} : ∀ {l : List Nat} {h : Int32} {z : Nat}, Ch ch (l ++ [z]) h → Ch ch lo op → (z ∉ lo) → (z ∉ l) → Ch (zu ch z op) (l ++ z :: lo) h := by
  intro l
  induction l with
  | nil =>
    intro h z c c' hz _
    refine ⟨c.1, ?_⟩
    rw [zu_eq]
    exact Ch.congr (fun k hk => zu_ne (fun e => hz (e ▸ hk))) c'
  | cons k l ih =>
    intro h z c c' hz hl
    have hk : k ≠ z := fun e => hl (e ▸ List.mem_cons_self)
    refine ⟨c.1, ?_⟩
    rw [zu_ne hk]
    exact ih c.2 c' hz (fun q => hl (List.mem_cons_of_mem _ q))
def okv (x : Int32) (S : Nat) : Prop := 0 ≤ x.toInt ∧ x.toInt ≤ (S : Int)
theorem okv.mono {x : Int32} {S T : Nat} (h : okv x S) (hs : S ≤ T) : okv x T := ⟨h.1, by have := h.2; omega⟩
def WFA (ch bh ot kd : Nat → Int32) (op : Int32) (bk bs bw : Nat → Int32) (S D : Nat) (pd : Option Nat) (own : Nat → Nat) (lo : List Nat) (lw : Nat → List Nat) : Prop :=
  (Ch ch lo op) ∧
  (∀ k, k ∈ lo → own k = 1) ∧
  (∀ d, d < D → bk d = 4 → Ch ch (lw d) (bw d)) ∧
  (∀ d k, d < D → bk d = 4 → k ∈ lw d → own k = d + 2) ∧
  (∀ k, 2 * S ≤ k → own k = 0) ∧
  (∀ d, d < D → (bk d = 3 ∨ bk d = 5) → ∃ s : Nat, s < S ∧ (bs d).toInt = (s : Int) ∧ own (2 * s + 1) = 0) ∧
  (∀ d d', d < D → d' < D → (bk d = 3 ∨ bk d = 5) → (bk d' = 3 ∨ bk d' = 5) → bs d = bs d' → d = d') ∧
  (∀ s : Nat, pd = some s → s < S ∧ own (2 * s + 1) = 0 ∧ ∀ d, d < D → (bk d = 3 ∨ bk d = 5) → (bs d).toInt ≠ (s : Int)) ∧
  (∀ s : Nat, s < S → kd s ≠ 13 → okv (bh s) S ∨ 2 * s ∈ lo ∨ ∃ d, d < D ∧ bk d = 4 ∧ 2 * s ∈ lw d) ∧
  (∀ s : Nat, s < S → (kd s = 5 ∨ kd s = 6) → okv (ot s) S ∨ (2 * s + 1) ∈ lo ∨ (∃ d, d < D ∧ bk d = 4 ∧ (2 * s + 1) ∈ lw d) ∨ (∃ d, d < D ∧ (bk d = 3 ∨ bk d = 5) ∧ (bs d).toInt = (s : Int)) ∨ pd = some s)
theorem WFA.a {ch bh ot kd : Nat → Int32} {op : Int32} {bk bs bw : Nat → Int32} {S D : Nat} {pd : Option Nat} {own : Nat → Nat} {lo : List Nat} {lw : Nat → List Nat} (h : WFA ch bh ot kd op bk bs bw S D pd own lo lw) : Ch ch lo op := h.1
theorem WFA.a1 {ch bh ot kd : Nat → Int32} {op : Int32} {bk bs bw : Nat → Int32} {S D : Nat} {pd : Option Nat} {own : Nat → Nat} {lo : List Nat} {lw : Nat → List Nat} (h : WFA ch bh ot kd op bk bs bw S D pd own lo lw) : ∀ k, k ∈ lo → own k = 1 := h.2.1
theorem WFA.b {ch bh ot kd : Nat → Int32} {op : Int32} {bk bs bw : Nat → Int32} {S D : Nat} {pd : Option Nat} {own : Nat → Nat} {lo : List Nat} {lw : Nat → List Nat} (h : WFA ch bh ot kd op bk bs bw S D pd own lo lw) : ∀ d, d < D → bk d = 4 → Ch ch (lw d) (bw d) := h.2.2.1
theorem WFA.b1 {ch bh ot kd : Nat → Int32} {op : Int32} {bk bs bw : Nat → Int32} {S D : Nat} {pd : Option Nat} {own : Nat → Nat} {lo : List Nat} {lw : Nat → List Nat} (h : WFA ch bh ot kd op bk bs bw S D pd own lo lw) : ∀ d k, d < D → bk d = 4 → k ∈ lw d → own k = d + 2 := h.2.2.2.1
theorem WFA.c {ch bh ot kd : Nat → Int32} {op : Int32} {bk bs bw : Nat → Int32} {S D : Nat} {pd : Option Nat} {own : Nat → Nat} {lo : List Nat} {lw : Nat → List Nat} (h : WFA ch bh ot kd op bk bs bw S D pd own lo lw) : ∀ k, 2 * S ≤ k → own k = 0 := h.2.2.2.2.1
theorem WFA.d {ch bh ot kd : Nat → Int32} {op : Int32} {bk bs bw : Nat → Int32} {S D : Nat} {pd : Option Nat} {own : Nat → Nat} {lo : List Nat} {lw : Nat → List Nat} (h : WFA ch bh ot kd op bk bs bw S D pd own lo lw) : ∀ d, d < D → (bk d = 3 ∨ bk d = 5) → ∃ s : Nat, s < S ∧ (bs d).toInt = (s : Int) ∧ own (2 * s + 1) = 0 := h.2.2.2.2.2.1
theorem WFA.e {ch bh ot kd : Nat → Int32} {op : Int32} {bk bs bw : Nat → Int32} {S D : Nat} {pd : Option Nat} {own : Nat → Nat} {lo : List Nat} {lw : Nat → List Nat} (h : WFA ch bh ot kd op bk bs bw S D pd own lo lw) : ∀ d d', d < D → d' < D → (bk d = 3 ∨ bk d = 5) → (bk d' = 3 ∨ bk d' = 5) → bs d = bs d' → d = d' := h.2.2.2.2.2.2.1
theorem WFA.p {ch bh ot kd : Nat → Int32} {op : Int32} {bk bs bw : Nat → Int32} {S D : Nat} {pd : Option Nat} {own : Nat → Nat} {lo : List Nat} {lw : Nat → List Nat} (h : WFA ch bh ot kd op bk bs bw S D pd own lo lw) : ∀ s : Nat, pd = some s → s < S ∧ own (2 * s + 1) = 0 ∧ ∀ d, d < D → (bk d = 3 ∨ bk d = 5) → (bs d).toInt ≠ (s : Int) := h.2.2.2.2.2.2.2.1
theorem WFA.f {ch bh ot kd : Nat → Int32} {op : Int32} {bk bs bw : Nat → Int32} {S D : Nat} {pd : Option Nat} {own : Nat → Nat} {lo : List Nat} {lw : Nat → List Nat} (h : WFA ch bh ot kd op bk bs bw S D pd own lo lw) : ∀ s : Nat, s < S → kd s ≠ 13 → okv (bh s) S ∨ 2 * s ∈ lo ∨ ∃ d, d < D ∧ bk d = 4 ∧ 2 * s ∈ lw d := h.2.2.2.2.2.2.2.2.1
theorem WFA.g {ch bh ot kd : Nat → Int32} {op : Int32} {bk bs bw : Nat → Int32} {S D : Nat} {pd : Option Nat} {own : Nat → Nat} {lo : List Nat} {lw : Nat → List Nat} (h : WFA ch bh ot kd op bk bs bw S D pd own lo lw) : ∀ s : Nat, s < S → (kd s = 5 ∨ kd s = 6) → okv (ot s) S ∨ (2 * s + 1) ∈ lo ∨ (∃ d, d < D ∧ bk d = 4 ∧ (2 * s + 1) ∈ lw d) ∨ (∃ d, d < D ∧ (bk d = 3 ∨ bk d = 5) ∧ (bs d).toInt = (s : Int)) ∨ pd = some s := h.2.2.2.2.2.2.2.2.2
section WF
variable {ch bh ot kd : Nat → Int32} {op : Int32} {bk bs bw : Nat → Int32} {S D : Nat} {pd : Option Nat} {own : Nat → Nat} {lo : List Nat} {lw : Nat → List Nat}
theorem WFA.congr {bh' ot' kd' : Nat → Int32} (h : WFA ch bh ot kd op bk bs bw S D pd own lo lw) (h1 : ∀ s, s < S → bh' s = bh s) (h2 : ∀ s, s < S → ot' s = ot s) (h3 : ∀ s, s < S → kd' s = kd s) : WFA ch bh' ot' kd' op bk bs bw S D pd own lo lw := by
  obtain ⟨a, a1, b, b1, c, d, e, p, f, g⟩ := h
  refine ⟨a, a1, b, b1, c, d, e, p, fun s hs hk => ?_, fun s hs hk => ?_⟩
  · rw [h1 s hs]; rw [h3 s hs] at hk; exact f s hs hk
  · rw [h2 s hs]; rw [h3 s hs] at hk; exact g s hs hk
theorem WFA.lead {bh' ot' : Nat → Int32} {to : Int32} (h : WFA ch bh ot kd op bk bs bw S D pd own lo lw) (ht : okv to S) (h1 : ∀ s, s < S → bh' s = if 2 * s ∈ lo then to else bh s) (h2 : ∀ s, s < S → ot' s = if 2 * s + 1 ∈ lo then to else ot s) : WFA ch bh' ot' kd (-1) bk bs bw S D pd (fun k => if own k = 1 then 0 else own k) [] lw := by
  obtain ⟨a, a1, b, b1, c, d, e, p, f, g⟩ := h
  refine ⟨rfl, fun k hk => (List.not_mem_nil hk).elim, b, fun d k hd hk hm => ?_, fun k hk => ?_, fun d' hd hk => ?_, e, fun s hs => ?_, fun s hs hk => ?_, fun s hs hk => ?_⟩
  · have := b1 d k hd hk hm; simp only [this]; rw [if_neg (by omega)]
  · simp only [c k hk]; rfl
  · obtain ⟨s, s1, s2, s3⟩ := d d' hd hk; exact ⟨s, s1, s2, by simp only [s3]; rfl⟩
  · obtain ⟨p1, p2, p3⟩ := p s hs; exact ⟨p1, by simp only [p2]; rfl, p3⟩
  · rw [h1 s hs]
    by_cases q : 2 * s ∈ lo
    · rw [if_pos q]; exact Or.inl ht
    · rw [if_neg q]
      rcases f s hs hk with h | h | h
      · exact Or.inl h
      · exact absurd h q
      · exact Or.inr (Or.inr h)
  · rw [h2 s hs]
    by_cases q : 2 * s + 1 ∈ lo
    · rw [if_pos q]; exact Or.inl ht
    · rw [if_neg q]
      rcases g s hs hk with h | h | h
      · exact Or.inl h
      · exact absurd h q
      · exact Or.inr (Or.inr h)
theorem WFA.stop (h : WFA ch bh ot kd (-1) bk bs bw S D none own [] lw) (hk : kd S = 13) : WFA ch bh ot kd (-1) bk bs bw (S + 1) D none own [] lw := by
  obtain ⟨a, a1, b, b1, c, d, e, p, f, g⟩ := h
  refine ⟨a, a1, b, b1, fun k hk => c k (by omega), fun d' hd hk => ?_, e, fun s hs => (by cases hs), fun s hs hk' => ?_, fun s hs hk' => ?_⟩
  · obtain ⟨s, s1, s2, s3⟩ := d d' hd hk; exact ⟨s, by omega, s2, s3⟩
  · by_cases q : s = S
    · subst q; exact absurd hk hk'
    · rcases f s (by omega) hk' with h | h | h
      · exact Or.inl (h.mono (by omega))
      · exact Or.inr (Or.inl h)
      · exact Or.inr (Or.inr h)
  · by_cases q : s = S
    · subst q; rw [hk] at hk'; exact absurd hk' (by decide)
    · rcases g s (by omega) hk' with h | h | h | h | h
      · exact Or.inl (h.mono (by omega))
      · exact Or.inr (Or.inl h)
      · exact Or.inr (Or.inr (Or.inl h))
      · exact Or.inr (Or.inr (Or.inr (Or.inl h)))
      · cases h
theorem WFA.step {op' : Int32} {pd' : Option Nat} (h : WFA ch bh ot kd (-1) bk bs bw S D none own [] lw) (hS : S < 24) (ho : op'.toInt = ((2 * S : Nat) : Int)) (hp : pd' = none ∨ pd' = some S) (hk : (kd S = 5 ∨ kd S = 6) → pd' = some S) : WFA (zu ch (2 * S) (-1)) bh ot kd op' bk bs bw (S + 1) D pd' (fun k => if k = 2 * S then 1 else own k) [2 * S] lw := by
  obtain ⟨a, a1, b, b1, c, d, e, p, f, g⟩ := h
  refine ⟨⟨⟨by omega, ho⟩, zu_eq⟩, fun k hk => ?_, fun d hd hk => ?_, fun d k hd hk hm => ?_, fun k hk => ?_, fun d' hd hk => ?_, e, fun s hs => ?_, fun s hs hk' => ?_, fun s hs hk' => ?_⟩
  · rw [List.mem_singleton.mp hk]; simp
  · refine Ch.congr (fun k hm => zu_ne (fun q => ?_)) (b d hd hk)
    have := b1 d k hd hk hm
    rw [q, c (2 * S) (Nat.le_refl _)] at this
    omega
  · have := b1 d k hd hk hm
    have hne : k ≠ 2 * S := fun q => by rw [q, c (2 * S) (Nat.le_refl _)] at this; omega
    simp only [if_neg hne]; exact this
  · simp only [if_neg (show k ≠ 2 * S by omega)]; exact c k (by omega)
  · obtain ⟨s, s1, s2, s3⟩ := d d' hd hk; exact ⟨s, by omega, s2, by simp only [if_neg (show 2 * s + 1 ≠ 2 * S by omega)]; exact s3⟩
  · have : s = S := by rcases hp with h | h <;> rw [h] at hs <;> cases hs; rfl
    subst this
    refine ⟨by omega, by simp only [if_neg (show 2 * s + 1 ≠ 2 * s by omega)]; exact c _ (by omega), fun d' hd hk q => ?_⟩
    obtain ⟨t, t1, t2, t3⟩ := d d' hd hk
    omega
  · by_cases q : s = S
    · subst q; exact Or.inr (Or.inl (List.mem_singleton.mpr rfl))
    · rcases f s (by omega) hk' with h | h | h
      · exact Or.inl (h.mono (by omega))
      · exact (List.not_mem_nil h).elim
      · exact Or.inr (Or.inr h)
  · by_cases q : s = S
    · subst q; exact Or.inr (Or.inr (Or.inr (Or.inr (hk hk'))))
    · rcases g s (by omega) hk' with h | h | h | h | h
      · exact Or.inl (h.mono (by omega))
      · exact (List.not_mem_nil h).elim
      · exact Or.inr (Or.inr (Or.inl h))
      · exact Or.inr (Or.inr (Or.inr (Or.inl h)))
      · cases h
theorem WFA.opn {sort step : Int32} (h : WFA ch bh ot kd op bk bs bw S D pd own lo lw) (hs : (sort = 3 ∨ sort = 5) → ∃ s : Nat, pd = some s ∧ step.toInt = (s : Int)) (h4 : sort ≠ 4) (hp : ¬ (sort = 3 ∨ sort = 5) → pd = none) : WFA ch bh ot kd op (zu bk D sort) (zu bs D step) bw S (D + 1) none own lo lw := by
  obtain ⟨a, a1, b, b1, c, d, e, p, f, g⟩ := h
  have z : ∀ d, d < D → zu bk D sort d = bk d ∧ zu bs D step d = bs d := fun d hd => ⟨zu_ne (by omega), zu_ne (by omega)⟩
  have w4 : ∀ d, d < D + 1 → zu bk D sort d = 4 → d < D := fun d hd hk => by
    by_cases q : d = D
    · rw [q, zu_eq] at hk; exact absurd hk h4
    · omega
  refine ⟨a, a1, fun d hd hk => ?_, fun d k hd hk hm => ?_, c, fun d' hd hk => ?_, fun d' d'' h1 h2 k1 k2 q => ?_, fun s hs => (by cases hs), fun s hs' hk' => ?_, fun s hs' hk' => ?_⟩
  · have l := w4 d hd hk; rw [(z d l).1] at hk; exact b d l hk
  · have l := w4 d hd hk; rw [(z d l).1] at hk; exact b1 d k l hk hm
  · by_cases q : d' = D
    · rw [q, zu_eq] at hk
      obtain ⟨s, s1, s2⟩ := hs hk
      obtain ⟨p1, p2, p3⟩ := p s s1
      exact ⟨s, p1, by rw [q, zu_eq]; exact s2, p2⟩
    · have l : d' < D := by omega
      rw [(z d' l).1] at hk; rw [(z d' l).2]; exact d d' l hk
  · by_cases q1 : d' = D
    · by_cases q2 : d'' = D
      · omega
      · have l : d'' < D := by omega
        rw [q1, zu_eq] at k1
        rw [(z d'' l).1] at k2
        rw [q1, zu_eq, (z d'' l).2] at q
        obtain ⟨s, s1, s2⟩ := hs k1
        exact absurd (by rw [← q]; exact s2) ((p s s1).2.2 d'' l k2)
    · have l1 : d' < D := by omega
      by_cases q2 : d'' = D
      · rw [q2, zu_eq] at k2
        rw [(z d' l1).1] at k1
        rw [q2, zu_eq, (z d' l1).2] at q
        obtain ⟨s, s1, s2⟩ := hs k2
        exact absurd (by rw [q]; exact s2) ((p s s1).2.2 d' l1 k1)
      · have l2 : d'' < D := by omega
        rw [(z d' l1).1] at k1; rw [(z d'' l2).1] at k2; rw [(z d' l1).2, (z d'' l2).2] at q
        exact e d' d'' l1 l2 k1 k2 q
  · rcases f s hs' hk' with h | h | ⟨d', x, y, w⟩
    · exact Or.inl h
    · exact Or.inr (Or.inl h)
    · exact Or.inr (Or.inr ⟨d', by omega, by rw [(z d' x).1]; exact y, w⟩)
  · rcases g s hs' hk' with h | h | ⟨d', x, y, w⟩ | ⟨d', x, y, w⟩ | h
    · exact Or.inl h
    · exact Or.inr (Or.inl h)
    · exact Or.inr (Or.inr (Or.inl ⟨d', by omega, by rw [(z d' x).1]; exact y, w⟩))
    · exact Or.inr (Or.inr (Or.inr (Or.inl ⟨d', by omega, by rw [(z d' x).1]; exact y, by rw [(z d' x).2]; exact w⟩)))
    · by_cases q : sort = 3 ∨ sort = 5
      · obtain ⟨t, t1, t2⟩ := hs q
        rw [h] at t1
        cases t1
        exact Or.inr (Or.inr (Or.inr (Or.inl ⟨D, by omega, by rw [zu_eq]; exact q, by rw [zu_eq]; exact t2⟩)))
      · rw [hp q] at h; cases h
theorem WFA.drop (h : WFA ch bh ot kd op bk bs bw S (D + 1) none own lo lw) (hk : ¬ (bk D = 3 ∨ bk D = 5) ∧ bk D ≠ 4) : WFA ch bh ot kd op bk bs bw S D none own lo lw := by
  obtain ⟨a, a1, b, b1, c, d, e, p, f, g⟩ := h
  refine ⟨a, a1, fun d hd => b d (by omega), fun d k hd => b1 d k (by omega), c, fun d' hd => d d' (by omega), fun d d' h1 h2 => e d d' (by omega) (by omega), fun s hs => (by cases hs), fun s hs' hk' => ?_, fun s hs' hk' => ?_⟩
  · rcases f s hs' hk' with h | h | ⟨d', x, y, w⟩
    · exact Or.inl h
    · exact Or.inr (Or.inl h)
    · have : d' ≠ D := fun q => by rw [q] at y; exact hk.2 y
      exact Or.inr (Or.inr ⟨d', by omega, y, w⟩)
  · rcases g s hs' hk' with h | h | ⟨d', x, y, w⟩ | ⟨d', x, y, w⟩ | h
    · exact Or.inl h
    · exact Or.inr (Or.inl h)
    · have : d' ≠ D := fun q => by rw [q] at y; exact hk.2 y
      exact Or.inr (Or.inr (Or.inl ⟨d', by omega, y, w⟩))
    · have : d' ≠ D := fun q => by rw [q] at y; exact hk.1 y
      exact Or.inr (Or.inr (Or.inr (Or.inl ⟨d', by omega, y, w⟩)))
    · cases h
/-- a block of 'if' or 'while' is done: its other way is put before the open ones -/
theorem WFA.side {ch' : Nat → Int32} {op' : Int32} {s : Nat} (h : WFA ch bh ot kd op bk bs bw S (D + 1) none own lo lw) (hk : bk D = 3 ∨ bk D = 5) (hs : (bs D).toInt = (s : Int)) (hS : S ≤ 24) (hc : ∀ k, k ≠ 2 * s + 1 → ch' k = ch k) (ho : Ch ch' ((2 * s + 1) :: lo) op') : WFA ch' bh ot kd op' bk bs bw S D none (fun k => if k = 2 * s + 1 then 1 else own k) ((2 * s + 1) :: lo) lw := by
  obtain ⟨a, a1, b, b1, c, d, e, p, f, g⟩ := h
  obtain ⟨s', s1, s2, s3⟩ := d D (by omega) hk
  have es : s' = s := by omega
  subst es
  have nlo : 2 * s' + 1 ∉ lo := fun q => by have := a1 _ q; omega
  refine ⟨ho, fun k hm => ?_, fun d hd hk => ?_, fun d k hd hk hm => ?_, fun k hk => ?_, fun d' hd hk' => ?_, fun d d' h1 h2 => e d d' (by omega) (by omega), fun s hs => (by cases hs), fun t ht hk' => ?_, fun t ht hk' => ?_⟩
  · by_cases q : k = 2 * s' + 1
    · simp only [if_pos q]
    · simp only [if_neg q]
      cases hm with
      | head => exact absurd rfl q
      | tail _ hm => exact a1 k hm
  · refine Ch.congr (fun k hm => hc k (fun q => ?_)) (b d (by omega) hk)
    have := b1 d k (by omega) hk hm
    rw [q, s3] at this
    omega
  · have := b1 d k (by omega) hk hm
    have hne : k ≠ 2 * s' + 1 := fun q => by rw [q, s3] at this; omega
    simp only [if_neg hne]; exact this
  · simp only [if_neg (show k ≠ 2 * s' + 1 by omega)]; exact c k hk
  · obtain ⟨t, t1, t2, t3⟩ := d d' (by omega) hk'
    have hne : t ≠ s' := fun q => by
      subst q
      have := e d' D (by omega) (by omega) hk' hk (Int32.toInt_inj.mp (t2.trans s2.symm))
      omega
    exact ⟨t, t1, t2, by simp only [if_neg (show 2 * t + 1 ≠ 2 * s' + 1 by omega)]; exact t3⟩
  · rcases f t ht hk' with h | h | ⟨d', x, y, w⟩
    · exact Or.inl h
    · exact Or.inr (Or.inl (List.mem_cons_of_mem _ h))
    · have : d' ≠ D := fun q => by rw [q] at y; rw [y] at hk; exact absurd hk (by decide)
      exact Or.inr (Or.inr ⟨d', by omega, y, w⟩)
  · rcases g t ht hk' with h | h | ⟨d', x, y, w⟩ | ⟨d', x, y, w⟩ | h
    · exact Or.inl h
    · exact Or.inr (Or.inl (List.mem_cons_of_mem _ h))
    · have : d' ≠ D := fun q => by rw [q] at y; rw [y] at hk; exact absurd hk (by decide)
      exact Or.inr (Or.inr (Or.inl ⟨d', by omega, y, w⟩))
    · by_cases q : d' = D
      · rw [q] at w
        have : t = s' := by omega
        subst this
        exact Or.inr (Or.inl List.mem_cons_self)
      · exact Or.inr (Or.inr (Or.inr (Or.inl ⟨d', by omega, y, w⟩)))
    · cases h
/-- the then-side of an 'if' is done, its other side begins in the same place -/
theorem WFA.els {op' : Int32} {s : Nat} (h : WFA ch bh ot kd op bk bs bw S (D + 1) none own lo lw) (hk : bk D = 3) (hs : (bs D).toInt = (s : Int)) (hS : S ≤ 24) (ho : op'.toInt = ((2 * s + 1 : Nat) : Int)) : WFA (zu ch (2 * s + 1) (-1)) bh ot kd op' (zu bk D 4) bs (zu bw D op) S (D + 1) none (fun k => if k = 2 * s + 1 then 1 else if own k = 1 then D + 2 else own k) [2 * s + 1] (fun d => if d = D then lo else lw d) := by
  obtain ⟨a, a1, b, b1, c, d, e, p, f, g⟩ := h
  obtain ⟨s', s1, s2, s3⟩ := d D (by omega) (Or.inl hk)
  have es : s' = s := by omega
  subst es
  have z : ∀ d, d ≠ D → zu bk D 4 d = bk d := fun d hd => zu_ne hd
  have nlo : 2 * s' + 1 ∉ lo := fun q => by have := a1 _ q; omega
  refine ⟨⟨⟨by omega, ho⟩, zu_eq⟩, fun k hm => ?_, fun d hd hk' => ?_, fun d k hd hk' hm => ?_, fun k hk' => ?_, fun d' hd hk' => ?_, fun d d' h1 h2 k1 k2 q => ?_, fun s hs => (by cases hs), fun t ht hk' => ?_, fun t ht hk' => ?_⟩
  · rw [List.mem_singleton.mp hm]; simp
  · by_cases q : d = D
    · subst q
      simp only [if_true, zu_eq]
      exact Ch.congr (fun k hm => zu_ne (fun q => nlo (q ▸ hm))) a
    · rw [z d q] at hk'
      simp only [if_neg q]
      rw [zu_ne q]
      refine Ch.congr (fun k hm => zu_ne (fun q' => ?_)) (b d hd hk')
      have := b1 d k hd hk' hm
      rw [q', s3] at this
      omega
  · by_cases q : d = D
    · subst q
      simp only [if_true] at hm
      have hne : k ≠ 2 * s' + 1 := fun q => nlo (q ▸ hm)
      simp only [if_neg hne, a1 k hm, if_true]
    · rw [z d q] at hk'
      simp only [if_neg q] at hm
      have := b1 d k hd hk' hm
      have hne : k ≠ 2 * s' + 1 := fun q => by rw [q, s3] at this; omega
      simp only [if_neg hne, this]
      rw [if_neg (by omega)]
  · simp only [if_neg (show k ≠ 2 * s' + 1 by omega), c k hk']; rfl
  · have hne : d' ≠ D := fun q => by rw [q, zu_eq] at hk'; exact absurd hk' (by decide)
    rw [z d' hne] at hk'
    obtain ⟨t, t1, t2, t3⟩ := d d' hd hk'
    have ht : t ≠ s' := fun q => by
      subst q
      exact hne (e d' D hd (by omega) hk' (Or.inl hk) (Int32.toInt_inj.mp (t2.trans s2.symm)))
    exact ⟨t, t1, t2, by simp only [if_neg (show 2 * t + 1 ≠ 2 * s' + 1 by omega), t3]; rfl⟩
  · have n1 : d ≠ D := fun q => by rw [q, zu_eq] at k1; exact absurd k1 (by decide)
    have n2 : d' ≠ D := fun q => by rw [q, zu_eq] at k2; exact absurd k2 (by decide)
    rw [z d n1] at k1; rw [z d' n2] at k2
    exact e d d' h1 h2 k1 k2 q
  · rcases f t ht hk' with h | h | ⟨d', x, y, w⟩
    · exact Or.inl h
    · exact Or.inr (Or.inr ⟨D, by omega, zu_eq, by simp only [if_true]; exact h⟩)
    · have n : d' ≠ D := fun q => by rw [q, hk] at y; exact absurd y (by decide)
      exact Or.inr (Or.inr ⟨d', x, by rw [z d' n]; exact y, by simp only [if_neg n]; exact w⟩)
  · rcases g t ht hk' with h | h | ⟨d', x, y, w⟩ | ⟨d', x, y, w⟩ | h
    · exact Or.inl h
    · exact Or.inr (Or.inr (Or.inl ⟨D, by omega, zu_eq, by simp only [if_true]; exact h⟩))
    · have n : d' ≠ D := fun q => by rw [q, hk] at y; exact absurd y (by decide)
      exact Or.inr (Or.inr (Or.inl ⟨d', x, by rw [z d' n]; exact y, by simp only [if_neg n]; exact w⟩))
    · by_cases q : d' = D
      · rw [q] at w
        have : t = s' := by omega
        subst this
        exact Or.inr (Or.inl (List.mem_singleton.mpr rfl))
      · exact Or.inr (Or.inr (Or.inr (Or.inl ⟨d', x, by rw [z d' q]; exact y, w⟩)))
    · cases h
/-- an 'else' is done: the ways of the then-side are put before the open ones -/
theorem WFA.join {ch' : Nat → Int32} {op' : Int32} (h : WFA ch bh ot kd op bk bs bw S (D + 1) none own lo lw) (hk : bk D = 4) (hc : Ch ch' (lw D ++ lo) op') (he : ∀ k, k ∉ lw D → ch' k = ch k) : WFA ch' bh ot kd op' bk bs bw S D none (fun k => if own k = D + 2 then 1 else own k) (lw D ++ lo) lw := by
  obtain ⟨a, a1, b, b1, c, d, e, p, f, g⟩ := h
  refine ⟨hc, fun k hm => ?_, fun d hd hk' => ?_, fun d k hd hk' hm => ?_, fun k hk' => ?_, fun d' hd hk' => ?_, fun d d' h1 h2 => e d d' (by omega) (by omega), fun s hs => (by cases hs), fun t ht hk' => ?_, fun t ht hk' => ?_⟩
  · rcases List.mem_append.mp hm with hm | hm
    · simp only [b1 D k (by omega) hk hm, if_true]
    · simp only [a1 k hm]; rw [if_neg (by omega)]
  · refine Ch.congr (fun k hm => he k (fun q => ?_)) (b d (by omega) hk')
    have := b1 d k (by omega) hk' hm
    have := b1 D k (by omega) hk q
    omega
  · have := b1 d k (by omega) hk' hm
    simp only [this]; rw [if_neg (by omega)]
  · simp only [c k hk']; rw [if_neg (by omega)]
  · obtain ⟨t, t1, t2, t3⟩ := d d' (by omega) hk'
    exact ⟨t, t1, t2, by simp only [t3]; rw [if_neg (by omega)]⟩
  · rcases f t ht hk' with h | h | ⟨d', x, y, w⟩
    · exact Or.inl h
    · exact Or.inr (Or.inl (List.mem_append.mpr (Or.inr h)))
    · by_cases q : d' = D
      · rw [q] at w; exact Or.inr (Or.inl (List.mem_append.mpr (Or.inl w)))
      · exact Or.inr (Or.inr ⟨d', by omega, y, w⟩)
  · rcases g t ht hk' with h | h | ⟨d', x, y, w⟩ | ⟨d', x, y, w⟩ | h
    · exact Or.inl h
    · exact Or.inr (Or.inl (List.mem_append.mpr (Or.inr h)))
    · by_cases q : d' = D
      · rw [q] at w; exact Or.inr (Or.inl (List.mem_append.mpr (Or.inl w)))
      · exact Or.inr (Or.inr (Or.inl ⟨d', by omega, y, w⟩))
    · have n : d' ≠ D := fun q => by rw [q, hk] at y; exact absurd y (by decide)
      exact Or.inr (Or.inr (Or.inr (Or.inl ⟨d', by omega, y, w⟩)))
    · cases h
end WF
/-! WAYS IN THE REFERENCE'S STATE -/
def tb (σ : zS) : Nat := 24 * (σ 82 39).toNatClampNeg
def tS (σ : zS) : Nat := (σ 90 (σ 82 39).toNatClampNeg).toNatClampNeg
def tD (σ : zS) : Nat := (σ 82 46).toNatClampNeg
def WFG (σ : zS) (pd : Option Nat) (own : Nat → Nat) (lo : List Nat) (lw : Nat → List Nat) : Prop := WFA (σ 102) (fun s => σ 94 (tb σ + s)) (fun s => σ 95 (tb σ + s)) (fun s => σ 92 (tb σ + s)) (σ 82 37) (σ 103) (σ 104) (σ 105) (tS σ) (tD σ) pd own lo lw
def WFS (σ : zS) (pd : Option Nat) : Prop := ∃ own lo lw, WFG σ pd own lo lw
theorem WFG.of {σ r : zS} {pd : Option Nat} {own : Nat → Nat} {lo : List Nat} {lw : Nat → List Nat} (h : WFG σ pd own lo lw) (e : ∀ q, q = 90 ∨ q = 92 ∨ q = 94 ∨ q = 95 ∨ q = 102 ∨ q = 103 ∨ q = 104 ∨ q = 105 → r q = σ q) (f : ∀ i, i = 37 ∨ i = 39 ∨ i = 46 → r 82 i = σ 82 i) : WFG r pd own lo lw := by
  have e1 : tb r = tb σ := by unfold tb; rw [f 39 (by simp)]
  have e2 : tS r = tS σ := by unfold tS; rw [f 39 (by simp), e 90 (by simp)]
  have e3 : tD r = tD σ := by unfold tD; rw [f 46 (by simp)]
  unfold WFG at h ⊢
  rw [e1, e2, e3, e 92 (by simp), e 94 (by simp), e 95 (by simp), e 102 (by simp), e 103 (by simp), e 104 (by simp), e 105 (by simp), f 37 (by simp)]
  exact h
theorem z_half {k : Int32} {j : Nat} (h : k.toInt = (j : Int)) (hj : j < 48) : (zJ_rem k 2).toInt = ((j % 2 : Nat) : Int) ∧ (k / 2).toInt = ((j / 2 : Nat) : Int) := by
  have k0 : 0 ≤ k := Int32.le_iff_toInt_le.mpr (by rw [h]; show (0 : Int) ≤ _; omega)
  have e1 := z_toInt_rem k0 (show (0 : Int32) < 2 by decide)
  have e2 := z_toInt_div k0 (show (0 : Int32) < 2 by decide)
  rw [h, show (2 : Int32).toInt = 2 from rfl] at e1 e2
  constructor
  · rw [e1]; omega
  · rw [e2]; omega
theorem z_eq0 {k : Int32} {n : Nat} (h : k.toInt = (n : Int)) : k = 0 ↔ n = 0 := by
  constructor
  · intro e; rw [e, show (0 : Int32).toInt = 0 from rfl] at h; omega
  · intro e; exact Int32.toInt_inj.mp (by rw [h, e]; rfl)
/-- what 'lead' leaves -/
def FL (σ r : zS) (to : Int32) (lo : List Nat) : Prop :=
  (∀ q, q ≠ 82 → q ≠ 94 → q ≠ 95 → r q = σ q) ∧
  (∀ i, i ≠ 37 → r 82 i = σ 82 i) ∧
  (r 82 37 = -1) ∧
  (∀ i, r 94 i = if tb σ ≤ i ∧ 2 * (i - tb σ) ∈ lo then to else σ 94 i) ∧
  (∀ i, r 95 i = if tb σ ≤ i ∧ 2 * (i - tb σ) + 1 ∈ lo then to else σ 95 i)
theorem FL.fr {σ r : zS} {to : Int32} {lo : List Nat} (h : FL σ r to lo) : ∀ q, q ≠ 82 → q ≠ 94 → q ≠ 95 → r q = σ q := h.1
theorem FL.ff {σ r : zS} {to : Int32} {lo : List Nat} (h : FL σ r to lo) : ∀ i, i ≠ 37 → r 82 i = σ 82 i := h.2.1
theorem FL.op {σ r : zS} {to : Int32} {lo : List Nat} (h : FL σ r to lo) : r 82 37 = -1 := h.2.2.1
theorem FL.b4 {σ r : zS} {to : Int32} {lo : List Nat} (h : FL σ r to lo) : ∀ i, r 94 i = if tb σ ≤ i ∧ 2 * (i - tb σ) ∈ lo then to else σ 94 i := h.2.2.2.1
theorem FL.b5 {σ r : zS} {to : Int32} {lo : List Nat} (h : FL σ r to lo) : ∀ i, r 95 i = if tb σ ≤ i ∧ 2 * (i - tb σ) + 1 ∈ lo then to else σ 95 i := h.2.2.2.2
theorem q_f_M_lead {N : Nat} (hN : zBig ≤ N) {σ : zS} {x1 : Int32} {Q : zS → Prop} {lo : List Nat} (ht : 0 ≤ σ 82 39 ∧ σ 82 39 < 4) (hc : Ch (σ 102) lo (σ 82 37)) (hQ : ∀ r, FL σ r x1 lo → Q r) : zq (zf_M_lead N σ x1) Q := by
  have t0 : 0 ≤ (σ 82 39).toInt := Int32.le_iff_toInt_le.mp ht.1
  have t1 : (σ 82 39).toInt < 4 := Int32.lt_iff_toInt_lt.mp ht.2
  have tn := z_nat ht.1
  have k24 : (24 : Int32).toInt = 24 := rfl
  have e24 := z_ti_mul (a := 24) (b := σ 82 39) (by rw [k24]; omega) (by rw [k24]; omega)
  rw [k24] at e24
  have eb : (24 * σ 82 39).toInt = (tb σ : Int) := by unfold tb; omega
  have H : ∀ (rest done : List Nat), lo = done ++ rest → ∀ (n : Nat) (ρ : zS), rest.length < n → Ch (σ 102) rest (ρ 82 37) → (∀ q, q ≠ 82 → q ≠ 94 → q ≠ 95 → ρ q = σ q) → (∀ i, i ≠ 37 → ρ 82 i = σ 82 i) → (∀ i, ρ 94 i = if tb σ ≤ i ∧ 2 * (i - tb σ) ∈ done then x1 else σ 94 i) → (∀ i, ρ 95 i = if tb σ ≤ i ∧ 2 * (i - tb σ) + 1 ∈ done then x1 else σ 95 i) → zq (zb_M_lead_8 N n ρ x1 (24 * σ 82 39)) Q := by
    intro rest
    induction rest with
    | nil =>
      intro done hl n ρ hn hr hf hg h4 h5
      rw [List.append_nil] at hl
      subst hl
      have hr : ρ 82 37 = -1 := hr
      cases n with
      | zero => exact absurd hn (Nat.not_lt_zero _)
      | succ n =>
        rw [zb_M_lead_8]
        refine zq_ite (fun _ => hQ _ ⟨hf, hg, hr, h4, h5⟩) fun c => absurd hr c
    | cons k rest ih =>
      intro done hl n ρ hn hr hf hg h4 h5
      obtain ⟨⟨hk, ek⟩, hr2⟩ := hr
      cases n with
      | zero => exact absurd hn (Nat.not_lt_zero _)
      | succ n =>
        have hk0 : 0 ≤ ρ 82 37 := Int32.le_iff_toInt_le.mpr (by rw [ek]; show (0 : Int) ≤ _; omega)
        have hk48 : ρ 82 37 < 48 := Int32.lt_iff_toInt_lt.mpr (by rw [ek]; show _ < (48 : Int); omega)
        have hne : ¬ ρ 82 37 = -1 := fun q => by rw [q, show (-1 : Int32).toInt = -1 from rfl] at ek; omega
        have kn : (ρ 82 37).toNatClampNeg = k := by have := z_nat hk0; omega
        obtain ⟨hrem, hdiv⟩ := z_half ek hk
        have esum := z_ti_add (a := 24 * σ 82 39) (b := ρ 82 37 / 2) (by omega) (by omega)
        have p0 : 0 ≤ 24 * σ 82 39 + ρ 82 37 / 2 := Int32.le_iff_toInt_le.mpr (by rw [esum]; show (0 : Int) ≤ _; omega)
        have p1 : 24 * σ 82 39 + ρ 82 37 / 2 < 96 := Int32.lt_iff_toInt_lt.mpr (by rw [esum, eb, hdiv]; show _ < (96 : Int); unfold tb; omega)
        have pn : (24 * σ 82 39 + ρ 82 37 / 2).toNatClampNeg = tb σ + k / 2 := by have := z_nat p0; omega
        have e102 : ρ 102 = σ 102 := hf 102 (by decide) (by decide) (by decide)
        rw [zb_M_lead_8]
        refine zq_ite (fun c => absurd c hne) fun _ => ?_
        refine zq_chk ⟨hk0, hk48⟩ fun _ => ?_
        have mem_snoc : ∀ j, j ∈ done ++ [k] ↔ (j ∈ done ∨ j = k) := fun j => by simp
        refine zq_ite (fun c => ?_) fun c => ?_
        · have odd : k % 2 = 1 := by have : ¬ k % 2 = 0 := fun q => c ((z_eq0 hrem).mpr q); omega
          refine zq_chk ⟨p0, p1⟩ fun _ => ?_
          refine ih (done ++ [k]) (by rw [hl]; simp) n _ (Nat.lt_of_succ_lt_succ hn) ?_ ?_ ?_ ?_ ?_
          · rw [zu_other (by decide), zx_up_same, zu_eq, kn, e102]; exact hr2
          · intro q a b d; rw [zu_other d, zu_other a]; exact hf q a b d
          · intro i hi; rw [zu_other (by decide), zx_up_same, zu_ne hi]; exact hg i hi
          · intro i
            rw [zu_other (by decide), zu_other (by decide), h4 i]
            have : (tb σ ≤ i ∧ 2 * (i - tb σ) ∈ done ++ [k]) ↔ (tb σ ≤ i ∧ 2 * (i - tb σ) ∈ done) := by
              rw [mem_snoc]
              constructor
              · rintro ⟨a, b | b⟩
                · exact ⟨a, b⟩
                · omega
              · rintro ⟨a, b⟩; exact ⟨a, Or.inl b⟩
            simp only [this]
          · intro i
            rw [zx_up_same, pn, zu_other (by decide)]
            by_cases q : i = tb σ + k / 2
            · rw [q, zu_eq, if_pos ⟨by omega, by rw [mem_snoc]; right; omega⟩]
            · rw [zu_ne q, h5 i]
              have : (tb σ ≤ i ∧ 2 * (i - tb σ) + 1 ∈ done ++ [k]) ↔ (tb σ ≤ i ∧ 2 * (i - tb σ) + 1 ∈ done) := by
                rw [mem_snoc]
                constructor
                · rintro ⟨a, b | b⟩
                  · exact ⟨a, b⟩
                  · omega
                · rintro ⟨a, b⟩; exact ⟨a, Or.inl b⟩
              simp only [this]
        · have even : k % 2 = 0 := (z_eq0 hrem).mp (Decidable.not_not.mp c)
          refine zq_chk ⟨p0, p1⟩ fun _ => ?_
          refine ih (done ++ [k]) (by rw [hl]; simp) n _ (Nat.lt_of_succ_lt_succ hn) ?_ ?_ ?_ ?_ ?_
          · rw [zu_other (by decide), zx_up_same, zu_eq, kn, e102]; exact hr2
          · intro q a b d; rw [zu_other b, zu_other a]; exact hf q a b d
          · intro i hi; rw [zu_other (by decide), zx_up_same, zu_ne hi]; exact hg i hi
          · intro i
            rw [zx_up_same, pn, zu_other (by decide)]
            by_cases q : i = tb σ + k / 2
            · rw [q, zu_eq, if_pos ⟨by omega, by rw [mem_snoc]; right; omega⟩]
            · rw [zu_ne q, h4 i]
              have : (tb σ ≤ i ∧ 2 * (i - tb σ) ∈ done ++ [k]) ↔ (tb σ ≤ i ∧ 2 * (i - tb σ) ∈ done) := by
                rw [mem_snoc]
                constructor
                · rintro ⟨a, b | b⟩
                  · exact ⟨a, b⟩
                  · omega
                · rintro ⟨a, b⟩; exact ⟨a, Or.inl b⟩
              simp only [this]
          · intro i
            rw [zu_other (by decide), zu_other (by decide), h5 i]
            have : (tb σ ≤ i ∧ 2 * (i - tb σ) + 1 ∈ done ++ [k]) ↔ (tb σ ≤ i ∧ 2 * (i - tb σ) + 1 ∈ done) := by
              rw [mem_snoc]
              constructor
              · rintro ⟨a, b | b⟩
                · exact ⟨a, b⟩
                · omega
              · rintro ⟨a, b⟩; exact ⟨a, Or.inl b⟩
            simp only [this]
  refine H lo [] rfl N σ ?_ hc (fun _ _ _ _ => rfl) (fun _ _ => rfl) ?_ ?_
  · have := hc.len
    have : zBig ≤ N := hN
    unfold zBig at this
    omega
  · intro i; rw [if_neg (fun q => List.not_mem_nil q.2)]
  · intro i; rw [if_neg (fun q => List.not_mem_nil q.2)]
/-- what 'joinOpen' leaves -/
def FJ (σ r : zS) (l lo : List Nat) (h : Int32) : Prop :=
  (∀ q, q ≠ 82 → q ≠ 102 → r q = σ q) ∧
  (∀ i, i ≠ 37 → r 82 i = σ 82 i) ∧
  (Ch (r 102) (l ++ lo) (r 82 37)) ∧
  (∀ k, k ∉ l → r 102 k = σ 102 k)
theorem FJ.fr {σ r : zS} {l lo : List Nat} {h : Int32} (h : FJ σ r l lo h) : ∀ q, q ≠ 82 → q ≠ 102 → r q = σ q := h.1
theorem FJ.ff {σ r : zS} {l lo : List Nat} {h : Int32} (h : FJ σ r l lo h) : ∀ i, i ≠ 37 → r 82 i = σ 82 i := h.2.1
theorem FJ.ch {σ r : zS} {l lo : List Nat} {h : Int32} (h : FJ σ r l lo h) : Ch (r 102) (l ++ lo) (r 82 37) := h.2.2.1
theorem FJ.ce {σ r : zS} {l lo : List Nat} {h : Int32} (h : FJ σ r l lo h) : ∀ k, k ∉ l → r 102 k = σ 102 k := h.2.2.2
theorem q_f_M_joinOpen {N : Nat} (hN : zBig ≤ N) {σ : zS} {x1 : Int32} {Q : zS → Prop} {l lo : List Nat} (hl : Ch (σ 102) l x1) (hc : Ch (σ 102) lo (σ 82 37)) (hd : ∀ k, k ∈ l → k ∉ lo) (hQ : ∀ r, FJ σ r l lo x1 → Q r) : zq (zf_M_joinOpen N σ x1) Q := by
  unfold zf_M_joinOpen
  refine zq_ite (fun c => ?_) fun c => ?_
  · have H : ∀ (rest done : List Nat), l = done ++ rest → ∀ (n : Nat) (v : Int32), rest.length ≤ n → rest ≠ [] → Ch (σ 102) rest v → zq (zb_M_joinOpen_8 N n σ x1 v) Q := by
      intro rest
      induction rest with
      | nil => intro done _ n v _ hne _; exact absurd rfl hne
      | cons k rest ih =>
        intro done e n v hn _ hv
        obtain ⟨⟨hk, ek⟩, hv2⟩ := hv
        have hk0 : 0 ≤ v := Int32.le_iff_toInt_le.mpr (by rw [ek]; show (0 : Int) ≤ _; omega)
        have hk48 : v < 48 := Int32.lt_iff_toInt_lt.mpr (by rw [ek]; show _ < (48 : Int); omega)
        have kn : v.toNatClampNeg = k := by have := z_nat hk0; omega
        cases n with
        | zero => exact absurd hn (Nat.not_succ_le_zero _)
        | succ n =>
          rw [zb_M_joinOpen_8]
          refine zq_chk ⟨hk0, hk48⟩ fun _ => ?_
          refine zq_ite (fun q => ?_) fun q => ?_
          · refine zq_chk ⟨hk0, hk48⟩ fun _ => ?_
            rw [kn] at q ⊢
            have er : rest = [] := by
              cases rest with
              | nil => rfl
              | cons j rest =>
                have := hv2.1.2
                rw [q, show (-1 : Int32).toInt = -1 from rfl] at this
                omega
            subst er
            have nd := hl.nodup
            rw [e] at nd hl hd
            have nk : k ∉ done := fun w => by
              have := (List.nodup_append.mp nd).2.2 k w k List.mem_cons_self
              exact this rfl
            refine hQ _ ⟨fun q a b => by rw [zu_other a, zu_other b], fun i hi => by rw [zx_up_same, zu_ne hi, zu_other (by decide)], ?_, fun j hj => ?_⟩
            · rw [zu_other (by decide), zx_up_same, zx_up_same, zu_eq, e, List.append_assoc]
              exact Ch.append hl hc (hd k (by simp)) nk
            · rw [zu_other (by decide), zx_up_same]
              exact zu_ne (fun w => hj (by rw [e, w]; simp))
          · refine zq_chk ⟨hk0, hk48⟩ fun _ => ?_
            rw [kn] at q ⊢
            refine ih (done ++ [k]) (by rw [e]; simp) n _ (Nat.le_of_succ_le_succ hn) ?_ hv2
            intro er
            rw [er] at hv2
            exact q hv2
    refine H l [] rfl N x1 ?_ ?_ hl
    · have := hl.len
      have : zBig ≤ N := hN
      unfold zBig at this
      omega
    · intro e; rw [e] at hl; exact c hl
  · have e : x1 = -1 := Decidable.not_not.mp c
    have el : l = [] := Ch.det hl (show Ch (σ 102) [] x1 from e)
    subst el
    exact hQ _ ⟨fun _ _ _ => rfl, fun _ _ => rfl, hc, fun _ _ => rfl⟩
/-! THE STATE OF READING -/
def SC (σ : zS) (k : Nat) (L : Int32) : Prop :=
  (¬ (σ 92 k = 10 ∨ σ 92 k = 11) → -1 ≤ σ 93 k ∧ σ 93 k ≤ 5) ∧
  ((σ 92 k = 0 ∨ σ 92 k = 1) → 0 ≤ σ 93 k) ∧
  ((σ 92 k = 3 ∨ σ 92 k = 4 ∨ σ 92 k = 7 ∨ σ 92 k = 8 ∨ σ 92 k = 9) → 0 ≤ σ 93 k ∧ σ 93 k ≤ 3) ∧
  ((σ 92 k = 10 ∨ σ 92 k = 11) → 0 ≤ σ 93 k ∧ σ 93 k < 4 + L) ∧
  ((σ 92 k = 0 ∨ σ 92 k = 2) → 0 ≤ σ 98 k ∧ σ 98 k ≤ 2) ∧
  ((σ 92 k = 1 ∨ σ 92 k = 2 ∨ σ 92 k = 5 ∨ σ 92 k = 6 ∨ σ 92 k = 12) → σ 99 k ≤ 10) ∧
  ((σ 92 k = 5 ∨ σ 92 k = 6 ∨ σ 92 k = 12 ∨ (σ 92 k = 2 ∧ (σ 101 k = 43 ∨ σ 101 k = 45))) → σ 100 k ≤ 10)
theorem SC.w0 {σ : zS} {k : Nat} {L : Int32} (h : SC σ k L) : ¬ (σ 92 k = 10 ∨ σ 92 k = 11) → -1 ≤ σ 93 k ∧ σ 93 k ≤ 5 := h.1
theorem SC.w1 {σ : zS} {k : Nat} {L : Int32} (h : SC σ k L) : (σ 92 k = 0 ∨ σ 92 k = 1) → 0 ≤ σ 93 k := h.2.1
theorem SC.w2 {σ : zS} {k : Nat} {L : Int32} (h : SC σ k L) : (σ 92 k = 3 ∨ σ 92 k = 4 ∨ σ 92 k = 7 ∨ σ 92 k = 8 ∨ σ 92 k = 9) → 0 ≤ σ 93 k ∧ σ 93 k ≤ 3 := h.2.2.1
theorem SC.w3 {σ : zS} {k : Nat} {L : Int32} (h : SC σ k L) : (σ 92 k = 10 ∨ σ 92 k = 11) → 0 ≤ σ 93 k ∧ σ 93 k < 4 + L := h.2.2.2.1
theorem SC.it {σ : zS} {k : Nat} {L : Int32} (h : SC σ k L) : (σ 92 k = 0 ∨ σ 92 k = 2) → 0 ≤ σ 98 k ∧ σ 98 k ≤ 2 := h.2.2.2.2.1
theorem SC.v1 {σ : zS} {k : Nat} {L : Int32} (h : SC σ k L) : (σ 92 k = 1 ∨ σ 92 k = 2 ∨ σ 92 k = 5 ∨ σ 92 k = 6 ∨ σ 92 k = 12) → σ 99 k ≤ 10 := h.2.2.2.2.2.1
theorem SC.v2 {σ : zS} {k : Nat} {L : Int32} (h : SC σ k L) : (σ 92 k = 5 ∨ σ 92 k = 6 ∨ σ 92 k = 12 ∨ (σ 92 k = 2 ∧ (σ 101 k = 43 ∨ σ 101 k = 45))) → σ 100 k ≤ 10 := h.2.2.2.2.2.2
theorem SC.of {σ r : zS} {k : Nat} {L L' : Int32} (h : SC σ k L) (e : ∀ q, q = 92 ∨ q = 93 ∨ q = 98 ∨ q = 99 ∨ q = 100 ∨ q = 101 → r q k = σ q k) (hL : L ≤ L' ∧ (0 ≤ L ∧ L' ≤ 100)) : SC r k L' := by
  have e2 := e 92 (by simp); have e3 := e 93 (by simp); have e8 := e 98 (by simp); have e9 := e 99 (by simp); have e0 := e 100 (by simp); have e1 := e 101 (by simp)
  obtain ⟨a, b, c, d, f, g, i⟩ := h
  refine ⟨?_, ?_, ?_, ?_, ?_, ?_, ?_⟩
  · rw [e2, e3]; exact a
  · rw [e2, e3]; exact b
  · rw [e2, e3]; exact c
  · rw [e2, e3]; intro q; have := d q
    refine ⟨this.1, ?_⟩
    have w := this.2
    clear a b c d f g i e e2 e3 e8 e9 e0 e1 q this
    generalize σ 93 k = W at *
    have k0 : (0 : Int32).toInt = 0 := rfl
    have k4 : (4 : Int32).toInt = 4 := rfl
    have l0 := Int32.le_iff_toInt_le.mp hL.2.1
    have l1 := Int32.le_iff_toInt_le.mp hL.1
    have l2 : L'.toInt ≤ 100 := Int32.le_iff_toInt_le.mp hL.2.2
    have s1 := z_ti_add (a := 4) (b := L) (by omega) (by omega)
    have s2 := z_ti_add (a := 4) (b := L') (by omega) (by omega)
    have w' := Int32.lt_iff_toInt_lt.mp w
    apply Int32.lt_iff_toInt_lt.mpr
    omega
  · rw [e2, e8]; exact f
  · rw [e2, e9]; exact g
  · rw [e2, e1, e0]; exact i
def JB (σ0 σ : zS) : Prop :=
  (∀ q, q < 82 → σ q = σ0 q) ∧
  (∀ i, i = 0 ∨ i = 2 ∨ i = 12 ∨ i = 21 ∨ i = 53 ∨ i = 62 → σ 82 i = σ0 82 i) ∧
  (TK σ) ∧
  (σ0 82 5 ≤ σ 82 5) ∧
  (¬ σ0 82 9 = 0 → ¬ σ 82 9 = 0) ∧
  (0 ≤ σ 82 18 ∧ σ 82 18 ≤ 3) ∧
  (0 ≤ σ 82 15 ∧ σ 82 15 ≤ 6) ∧
  (0 ≤ σ 82 16 ∧ σ 82 16 ≤ 4) ∧
  (0 ≤ σ 82 17 ∧ σ 82 17 ≤ 4) ∧
  (0 ≤ σ 82 19 ∧ σ 82 19 ≤ 96) ∧
  (∀ t, 0 ≤ σ 90 t ∧ σ 90 t ≤ 24) ∧
  (0 ≤ σ 82 39 ∧ σ 82 39 < 4) ∧
  (0 ≤ σ 82 46 ∧ σ 82 46 ≤ 8) ∧
  (0 ≤ σ 82 25 ∧ σ 82 25 ≤ 6)
theorem JB.fr {σ0 σ : zS} (h : JB σ0 σ) : ∀ q, q < 82 → σ q = σ0 q := h.1
theorem JB.ff {σ0 σ : zS} (h : JB σ0 σ) : ∀ i, i = 0 ∨ i = 2 ∨ i = 12 ∨ i = 21 ∨ i = 53 ∨ i = 62 → σ 82 i = σ0 82 i := h.2.1
theorem JB.tk {σ0 σ : zS} (h : JB σ0 σ) : TK σ := h.2.2.1
theorem JB.mo {σ0 σ : zS} (h : JB σ0 σ) : σ0 82 5 ≤ σ 82 5 := h.2.2.2.1
theorem JB.fa {σ0 σ : zS} (h : JB σ0 σ) : ¬ σ0 82 9 = 0 → ¬ σ 82 9 = 0 := h.2.2.2.2.1
theorem JB.lc {σ0 σ : zS} (h : JB σ0 σ) : 0 ≤ σ 82 18 ∧ σ 82 18 ≤ 3 := h.2.2.2.2.2.1
theorem JB.nf {σ0 σ : zS} (h : JB σ0 σ) : 0 ≤ σ 82 15 ∧ σ 82 15 ≤ 6 := h.2.2.2.2.2.2.1
theorem JB.nl {σ0 σ : zS} (h : JB σ0 σ) : 0 ≤ σ 82 16 ∧ σ 82 16 ≤ 4 := h.2.2.2.2.2.2.2.1
theorem JB.nt {σ0 σ : zS} (h : JB σ0 σ) : 0 ≤ σ 82 17 ∧ σ 82 17 ≤ 4 := h.2.2.2.2.2.2.2.2.1
theorem JB.lt {σ0 σ : zS} (h : JB σ0 σ) : 0 ≤ σ 82 19 ∧ σ 82 19 ≤ 96 := h.2.2.2.2.2.2.2.2.2.1
theorem JB.st {σ0 σ : zS} (h : JB σ0 σ) : ∀ t, 0 ≤ σ 90 t ∧ σ 90 t ≤ 24 := h.2.2.2.2.2.2.2.2.2.2.1
theorem JB.th {σ0 σ : zS} (h : JB σ0 σ) : 0 ≤ σ 82 39 ∧ σ 82 39 < 4 := h.2.2.2.2.2.2.2.2.2.2.2.1
theorem JB.dp {σ0 σ : zS} (h : JB σ0 σ) : 0 ≤ σ 82 46 ∧ σ 82 46 ≤ 8 := h.2.2.2.2.2.2.2.2.2.2.2.2.1
theorem JB.ns {σ0 σ : zS} (h : JB σ0 σ) : 0 ≤ σ 82 25 ∧ σ 82 25 ≤ 6 := h.2.2.2.2.2.2.2.2.2.2.2.2.2
theorem JB.q {σ0 σ : zS} (h : JB σ0 σ) : JQ σ σ := ⟨fun _ _ _ _ => rfl, fun _ _ => rfl, h.tk, Int32.le_refl _, id, h.lc, h.nf, h.nl, h.nt, h.lt⟩
theorem JB.to {σ0 σ r : zS} (h : JB σ0 σ) (k : JQ σ r) : JB σ0 r := by
  refine ⟨fun q hq => (k.fr q (by omega) (by omega) (by omega)).trans (h.fr q hq), fun i hi => (k.ff i (by omega)).trans (h.ff i hi), k.tk, Int32.le_trans h.mo k.mo, fun q => k.fa (h.fa q), k.lc, k.nf, k.nl, k.nt, k.lt, ?_, ?_, ?_, ?_⟩
  · rw [k.fr 90 (by decide) (by decide) (by decide)]; exact h.st
  · rw [k.ff 39 (by omega)]; exact h.th
  · rw [k.ff 46 (by omega)]; exact h.dp
  · rw [k.ff 25 (by omega)]; exact h.ns
theorem JB.trans {σ0 σ r : zS} (h : JB σ0 σ) (k : JB σ r) : JB σ0 r := ⟨fun q hq => (k.fr q hq).trans (h.fr q hq), fun i hi => (k.ff i hi).trans (h.ff i hi), k.tk, Int32.le_trans h.mo k.mo, fun q => k.fa (h.fa q), k.lc, k.nf, k.nl, k.nt, k.lt, k.st, k.th, k.dp, k.ns⟩
theorem JB.refl {σ0 σ : zS} (h : JB σ0 σ) : JB σ σ := ⟨fun _ _ => rfl, fun _ _ => rfl, h.tk, Int32.le_refl _, id, h.lc, h.nf, h.nl, h.nt, h.lt, h.st, h.th, h.dp, h.ns⟩
/-- a change of words that the base does not speak of -/
theorem JB.of {σ0 σ r : zS} (h : JB σ0 σ) (e : ∀ q, (q < 82 ∨ q = 86) → r q = σ q) (f : ∀ i, i ≠ 37 → i ≠ 40 → i ≠ 41 → r 82 i = σ 82 i) (s : r 90 = σ 90) : JB σ0 r := by
  obtain ⟨t1, t2, t3, t4, t5, t6, t7, t8⟩ := h.tk
  have g : ∀ i, i < 37 ∨ i = 39 ∨ 41 < i → r 82 i = σ 82 i := fun i hi => f i (by omega) (by omega) (by omega)
  refine ⟨fun q hq => (e q (Or.inl hq)).trans (h.fr q hq), fun i hi => (g i (by omega)).trans (h.ff i hi), ⟨by rw [g 4 (by omega)]; exact t1, by rw [g 5 (by omega)]; exact t2, by rw [g 6 (by omega)]; exact t3, by rw [g 5 (by omega), g 6 (by omega)]; exact t4, by rw [g 7 (by omega), g 6 (by omega)]; exact t5, by rw [g 7 (by omega), g 6 (by omega)]; exact t6, by rw [g 7 (by omega), g 8 (by omega)]; exact t7, by rw [e 86 (by simp)]; exact t8⟩, by rw [g 5 (by omega)]; exact h.mo, by rw [g 9 (by omega)]; exact h.fa, by rw [g 18 (by omega)]; exact h.lc, by rw [g 15 (by omega)]; exact h.nf, by rw [g 16 (by omega)]; exact h.nl, by rw [g 17 (by omega)]; exact h.nt, by rw [g 19 (by omega)]; exact h.lt, by rw [s]; exact h.st, by rw [g 39 (by omega)]; exact h.th, by rw [g 46 (by omega)]; exact h.dp, by rw [g 25 (by omega)]; exact h.ns⟩
def PS (σ : zS) (bd : Option Nat) : Prop :=
  (σ 82 17 = σ 82 39 + 1) ∧
  (∀ t s : Nat, t ≤ (σ 82 39).toNatClampNeg → s < (σ 90 t).toNatClampNeg → bd ≠ some (24 * t + s) → SC σ (24 * t + s) (σ 82 19)) ∧
  (∀ t s : Nat, t < (σ 82 39).toNatClampNeg → s < (σ 90 t).toNatClampNeg → okv (σ 94 (24 * t + s)) (σ 90 t).toNatClampNeg ∧ ((σ 92 (24 * t + s) = 5 ∨ σ 92 (24 * t + s) = 6) → okv (σ 95 (24 * t + s)) (σ 90 t).toNatClampNeg)) ∧
  ((σ 82 19).toInt + (if bd = none then 0 else 1) ≤ (tb σ : Int) + (tS σ : Int)) ∧
  (∀ v : Int32, 0 ≤ v → v < σ 82 25 → 0 ≤ σ 91 v.toNatClampNeg ∧ σ 91 v.toNatClampNeg < σ 82 17) ∧
  (∀ d : Nat, d < tD σ → σ 103 d = 1 → ∃ s : Nat, s < tS σ ∧ (σ 104 d).toInt = (s : Int) ∧ 0 ≤ σ 93 (tb σ + s) ∧ σ 93 (tb σ + s) ≤ 3 ∧ bd ≠ some (tb σ + s))
theorem PS.tt {σ : zS} {bd : Option Nat} (h : PS σ bd) : σ 82 17 = σ 82 39 + 1 := h.1
theorem PS.sc {σ : zS} {bd : Option Nat} (h : PS σ bd) : ∀ t s : Nat, t ≤ (σ 82 39).toNatClampNeg → s < (σ 90 t).toNatClampNeg → bd ≠ some (24 * t + s) → SC σ (24 * t + s) (σ 82 19) := h.2.1
theorem PS.lk {σ : zS} {bd : Option Nat} (h : PS σ bd) : ∀ t s : Nat, t < (σ 82 39).toNatClampNeg → s < (σ 90 t).toNatClampNeg → okv (σ 94 (24 * t + s)) (σ 90 t).toNatClampNeg ∧ ((σ 92 (24 * t + s) = 5 ∨ σ 92 (24 * t + s) = 6) → okv (σ 95 (24 * t + s)) (σ 90 t).toNatClampNeg) := h.2.2.1
theorem PS.la {σ : zS} {bd : Option Nat} (h : PS σ bd) : (σ 82 19).toInt + (if bd = none then 0 else 1) ≤ (tb σ : Int) + (tS σ : Int) := h.2.2.2.1
theorem PS.sp {σ : zS} {bd : Option Nat} (h : PS σ bd) : ∀ v : Int32, 0 ≤ v → v < σ 82 25 → 0 ≤ σ 91 v.toNatClampNeg ∧ σ 91 v.toNatClampNeg < σ 82 17 := h.2.2.2.2.1
theorem PS.lb {σ : zS} {bd : Option Nat} (h : PS σ bd) : ∀ d : Nat, d < tD σ → σ 103 d = 1 → ∃ s : Nat, s < tS σ ∧ (σ 104 d).toInt = (s : Int) ∧ 0 ≤ σ 93 (tb σ + s) ∧ σ 93 (tb σ + s) ≤ 3 ∧ bd ≠ some (tb σ + s) := h.2.2.2.2.2
theorem PS.of {σ r : zS} {bd : Option Nat} (h : PS σ bd) (e : ∀ q, q = 90 ∨ q = 91 ∨ q = 92 ∨ q = 93 ∨ q = 94 ∨ q = 95 ∨ q = 98 ∨ q = 99 ∨ q = 100 ∨ q = 101 ∨ q = 103 ∨ q = 104 → r q = σ q) (f : ∀ i, i = 17 ∨ i = 19 ∨ i = 25 ∨ i = 39 ∨ i = 46 → r 82 i = σ 82 i) (hL : 0 ≤ σ 82 19 ∧ σ 82 19 ≤ 96) : PS r bd := by
  have e1 : tb r = tb σ := by unfold tb; rw [f 39 (by simp)]
  have e2 : tS r = tS σ := by unfold tS; rw [f 39 (by simp), e 90 (by simp)]
  have e3 : tD r = tD σ := by unfold tD; rw [f 46 (by simp)]
  obtain ⟨a, b, c, d, g, k⟩ := h
  refine ⟨by rw [f 17 (by simp), f 39 (by simp)]; exact a, ?_, ?_, by rw [f 19 (by simp), e1, e2]; exact d, by rw [f 25 (by simp), f 17 (by simp), e 91 (by simp)]; exact g, by rw [e1, e2, e3, e 103 (by simp), e 104 (by simp), e 93 (by simp)]; exact k⟩
  · rw [f 39 (by simp), f 19 (by simp), e 90 (by simp)]
    intro t s h1 h2 h3
    exact (b t s h1 h2 h3).of (fun q hq => by rw [e q (by omega)]) ⟨Int32.le_refl _, hL.1, Int32.le_trans hL.2 (by decide)⟩
  · rw [f 39 (by simp), e 90 (by simp), e 92 (by simp), e 94 (by simp), e 95 (by simp)]
    exact c
/-- all that is known between two words of a statement -/
def JP (σ0 σ : zS) (bd pd : Option Nat) : Prop :=
  (JB σ0 σ) ∧
  (σ 82 9 = 0 → PS σ bd ∧ WFS σ pd)
theorem JP.b {σ0 σ : zS} {bd pd : Option Nat} (h : JP σ0 σ bd pd) : JB σ0 σ := h.1
theorem JP.p {σ0 σ : zS} {bd pd : Option Nat} (h : JP σ0 σ bd pd) : σ 82 9 = 0 → PS σ bd ∧ WFS σ pd := h.2
theorem JP.to {σ0 σ r : zS} {bd pd : Option Nat} (h : JP σ0 σ bd pd) (k : JQ σ r) : JP σ0 r bd pd := by
  refine ⟨h.b.to k, fun q => ?_⟩
  have q0 : σ 82 9 = 0 := Decidable.not_not.mp (fun w => k.fa w q)
  obtain ⟨p1, own, lo, lw, p2⟩ := h.p q0
  exact ⟨p1.of (fun q hq => k.fr q (by omega) (by omega) (by omega)) (fun i hi => k.ff i (by omega)) h.b.lt, own, lo, lw, p2.of (fun q hq => k.fr q (by omega) (by omega) (by omega)) (fun i hi => k.ff i (by omega))⟩
theorem JP.ff {σ0 σ r : zS} {bd pd : Option Nat} (h : JP σ0 σ bd pd) (k : FF σ r) (q : ¬ r 82 9 = 0) : JP σ0 r bd pd := h.to (FF.jq h.b.q k q)
/-- what 'addStep' leaves, where it is no fault -/
def AS (σ r : zS) (s x1 x2 : Int32) : Prop :=
  (∀ q, q ≠ 82 → q ≠ 90 → q ≠ 92 → q ≠ 93 → q ≠ 94 → q ≠ 95 → q ≠ 96 → q ≠ 97 → q ≠ 102 → r q = σ q) ∧
  (∀ i, i ≠ 37 → r 82 i = σ 82 i) ∧
  (s.toInt = (tS σ : Int) ∧ tS σ < 24) ∧
  (r 92 (tb σ + tS σ) = x1) ∧
  (r 93 (tb σ + tS σ) = x2) ∧
  (tS r = tS σ + 1) ∧
  (∀ i, i ≠ tb σ + tS σ → r 92 i = σ 92 i ∧ r 93 i = σ 93 i)
theorem AS.fr {σ r : zS} {s x1 x2 : Int32} (h : AS σ r s x1 x2) : ∀ q, q ≠ 82 → q ≠ 90 → q ≠ 92 → q ≠ 93 → q ≠ 94 → q ≠ 95 → q ≠ 96 → q ≠ 97 → q ≠ 102 → r q = σ q := h.1
theorem AS.ff {σ r : zS} {s x1 x2 : Int32} (h : AS σ r s x1 x2) : ∀ i, i ≠ 37 → r 82 i = σ 82 i := h.2.1
theorem AS.sv {σ r : zS} {s x1 x2 : Int32} (h : AS σ r s x1 x2) : s.toInt = (tS σ : Int) ∧ tS σ < 24 := h.2.2.1
theorem AS.kd {σ r : zS} {s x1 x2 : Int32} (h : AS σ r s x1 x2) : r 92 (tb σ + tS σ) = x1 := h.2.2.2.1
theorem AS.wh {σ r : zS} {s x1 x2 : Int32} (h : AS σ r s x1 x2) : r 93 (tb σ + tS σ) = x2 := h.2.2.2.2.1
theorem AS.ts {σ r : zS} {s x1 x2 : Int32} (h : AS σ r s x1 x2) : tS r = tS σ + 1 := h.2.2.2.2.2.1
theorem AS.ke {σ r : zS} {s x1 x2 : Int32} (h : AS σ r s x1 x2) : ∀ i, i ≠ tb σ + tS σ → r 92 i = σ 92 i ∧ r 93 i = σ 93 i := h.2.2.2.2.2.2
theorem z_idx {t s : Int32} (ht : 0 ≤ t ∧ t < 4) (hs : 0 ≤ s ∧ s < 24) : (0 ≤ 24 * t + s ∧ 24 * t + s < 96) ∧ (24 * t + s).toNatClampNeg = 24 * t.toNatClampNeg + s.toNatClampNeg := by
  have t0 : 0 ≤ t.toInt := Int32.le_iff_toInt_le.mp ht.1
  have t1 : t.toInt < 4 := Int32.lt_iff_toInt_lt.mp ht.2
  have s0 : 0 ≤ s.toInt := Int32.le_iff_toInt_le.mp hs.1
  have s1 : s.toInt < 24 := Int32.lt_iff_toInt_lt.mp hs.2
  have k0 : (0 : Int32).toInt = 0 := rfl
  have k24 : (24 : Int32).toInt = 24 := rfl
  have k96 : (96 : Int32).toInt = 96 := rfl
  have e1 := z_ti_mul (a := 24) (b := t) (by rw [k24]; omega) (by rw [k24]; omega)
  rw [k24] at e1
  have e2 := z_ti_add (a := 24 * t) (b := s) (by omega) (by omega)
  have p : 0 ≤ 24 * t + s ∧ 24 * t + s < 96 := by
    simp only [Int32.le_iff_toInt_le, Int32.lt_iff_toInt_lt]; omega
  refine ⟨p, ?_⟩
  have a := z_nat p.1; have b := z_nat ht.1; have c := z_nat hs.1
  omega
theorem z_t24 {σ : zS} (t : Nat) (st : ∀ t, 0 ≤ σ 90 t ∧ σ 90 t ≤ 24) : (σ 90 t).toNatClampNeg ≤ 24 := by
  have a := z_nat (st t).1
  have b : (σ 90 t).toInt ≤ 24 := Int32.le_iff_toInt_le.mp (st t).2
  omega
theorem q_f_M_addStep {N : Nat} (hN : zBig ≤ N) {σ0 σ : zS} {x1 x2 : Int32} {Q : Int32 × zS → Prop} (h : JB σ0 σ) (hp : PS σ none) (hw : WFS σ none) (h9 : σ 82 9 = 0) (hQ : ∀ r, ((0 ≤ r.1 ∧ r.1 < 24) ∧ JB σ0 r.2 ∧ (¬ r.2 82 9 = 0 → FF σ r.2) ∧ (r.2 82 9 = 0 → AS σ r.2 r.1 x1 x2 ∧ PS r.2 (some (tb σ + tS σ)) ∧ WFS r.2 (if x1 = 5 ∨ x1 = 6 then some (tS σ) else none))) → Q r) : zq (zf_M_addStep N σ x1 x2) Q := by
  have th := h.th
  have st := h.st (σ 82 39).toNatClampNeg
  unfold zf_M_addStep
  refine zq_chk th fun _ => ?_
  refine zq_ite (fun c => ?_) fun c => ?_
  · -- there is room
    have s24 : 0 ≤ σ 90 (σ 82 39).toNatClampNeg ∧ σ 90 (σ 82 39).toNatClampNeg < 24 := by
      have := st.1; have := st.2
      clear hQ hp hw h
      generalize σ 90 (σ 82 39).toNatClampNeg = V at *
      grind
    obtain ⟨ik, ek⟩ := z_idx th s24
    have eK : (24 * σ 82 39 + σ 90 (σ 82 39).toNatClampNeg).toNatClampNeg = tb σ + tS σ := ek
    have eS : (σ 90 (σ 82 39).toNatClampNeg).toInt = (tS σ : Int) := (z_nat s24.1).symm
    have S24 : tS σ < 24 := by have : (σ 90 (σ 82 39).toNatClampNeg).toInt < 24 := Int32.lt_iff_toInt_lt.mp s24.2; omega
    refine zq_chk ik fun _ => zq_chk ik fun _ => zq_chk ik fun _ => zq_chk ik fun _ => zq_chk ik fun _ => zq_chk ik fun _ => ?_
    rw [eK]
    obtain ⟨own, lo, lw, wf⟩ := hw
    -- the words of the new step
    generalize hA : zx_up (zx_up (zx_up (zx_up (zx_up (zx_up σ 92 (tb σ + tS σ) x1) 93 (tb σ + tS σ) x2) 94 (tb σ + tS σ) (-1)) 95 (tb σ + tS σ) (-1)) 96 (tb σ + tS σ) (σ 82 40)) 97 (tb σ + tS σ) (σ 82 41) = A
    have fA : ∀ q, q ≠ 92 → q ≠ 93 → q ≠ 94 → q ≠ 95 → q ≠ 96 → q ≠ 97 → A q = σ q := fun q a b d e f g => by
      rw [← hA, zu_other g, zu_other f, zu_other e, zu_other d, zu_other b, zu_other a]
    have A82 := fA 82 (by decide) (by decide) (by decide) (by decide) (by decide) (by decide)
    have A90 := fA 90 (by decide) (by decide) (by decide) (by decide) (by decide) (by decide)
    have A92 : A 92 = zu (σ 92) (tb σ + tS σ) x1 := by rw [← hA, zu_other (by decide), zu_other (by decide), zu_other (by decide), zu_other (by decide), zu_other (by decide), zx_up_same]
    have A93 : A 93 = zu (σ 93) (tb σ + tS σ) x2 := by rw [← hA, zu_other (by decide), zu_other (by decide), zu_other (by decide), zu_other (by decide), zx_up_same, zu_other (by decide)]
    have A94 : A 94 = zu (σ 94) (tb σ + tS σ) (-1) := by rw [← hA, zu_other (by decide), zu_other (by decide), zu_other (by decide), zx_up_same, zu_other (by decide), zu_other (by decide)]
    have A95 : A 95 = zu (σ 95) (tb σ + tS σ) (-1) := by rw [← hA, zu_other (by decide), zu_other (by decide), zx_up_same, zu_other (by decide), zu_other (by decide), zu_other (by decide)]
    have Atb : tb A = tb σ := by unfold tb; rw [A82]
    have AtS : tS A = tS σ := by unfold tS; rw [A82, A90]
    have AtD : tD A = tD σ := by unfold tD; rw [A82]
    have wA : WFG A none own lo lw := by
      unfold WFG at wf ⊢
      rw [Atb, AtS, AtD, fA 102 (by decide) (by decide) (by decide) (by decide) (by decide) (by decide), fA 103 (by decide) (by decide) (by decide) (by decide) (by decide) (by decide), fA 104 (by decide) (by decide) (by decide) (by decide) (by decide) (by decide), fA 105 (by decide) (by decide) (by decide) (by decide) (by decide) (by decide), A82]
      exact wf.congr (fun s hs => by rw [A94, zu_ne (by omega)]) (fun s hs => by rw [A95, zu_ne (by omega)]) (fun s hs => by rw [A92, zu_ne (by omega)])
    refine zq_bind (q_f_M_lead hN (lo := lo) (by rw [A82]; exact th) wA.a fun r9 f9 => ?_)
    have E82 : ∀ i, i ≠ 37 → r9 82 i = σ 82 i := fun i hi => (f9.ff i hi).trans (by rw [A82])
    have E39 := E82 39 (by decide)
    have E90 : r9 90 = σ 90 := (f9.fr 90 (by decide) (by decide) (by decide)).trans A90
    rw [E39, E90]
    refine zq_chk th fun _ => zq_chk th fun _ => ?_
    -- where all lists but the else-blocks' are led
    have w9 := wA.lead (bh' := fun s => r9 94 (tb σ + s)) (ot' := fun s => r9 95 (tb σ + s)) (to := σ 90 (σ 82 39).toNatClampNeg) (by rw [AtS]; exact ⟨by omega, by omega⟩)
      (fun s _ => by
        have := f9.b4 (tb σ + s)
        rw [Atb] at this
        rw [this, Atb]
        simp only [Nat.le_add_right, true_and, Nat.add_sub_cancel_left])
      (fun s _ => by
        have := f9.b5 (tb σ + s)
        rw [Atb] at this
        rw [this, Atb]
        simp only [Nat.le_add_right, true_and, Nat.add_sub_cancel_left])
    rw [Atb, AtS, AtD, fA 102 (by decide) (by decide) (by decide) (by decide) (by decide) (by decide), fA 103 (by decide) (by decide) (by decide) (by decide) (by decide) (by decide), fA 104 (by decide) (by decide) (by decide) (by decide) (by decide) (by decide), fA 105 (by decide) (by decide) (by decide) (by decide) (by decide) (by decide)] at w9
    have hj : tb σ = 24 * (σ 82 39).toNatClampNeg := rfl
    -- what holds of every state that comes out
    have out : ∀ (r : zS), (∀ q, q ≠ 82 → q ≠ 90 → q ≠ 102 → r q = r9 q) → (∀ i, i ≠ 37 → r 82 i = σ 82 i) → r 90 = zu (σ 90) (σ 82 39).toNatClampNeg (σ 90 (σ 82 39).toNatClampNeg + 1) → WFS r (if x1 = 5 ∨ x1 = 6 then some (tS σ) else none) → Q (σ 90 (σ 82 39).toNatClampNeg, r) := by
      intro r hr h82 h90 hwf
      have F : ∀ q, q ≠ 82 → q ≠ 90 → q ≠ 92 → q ≠ 93 → q ≠ 94 → q ≠ 95 → q ≠ 96 → q ≠ 97 → q ≠ 102 → r q = σ q := fun q a b d e f g i j k => (hr q a b k).trans ((f9.fr q a f g).trans (fA q d e f g i j))
      have R92 : r 92 = zu (σ 92) (tb σ + tS σ) x1 := (hr 92 (by decide) (by decide) (by decide)).trans ((f9.fr 92 (by decide) (by decide) (by decide)).trans A92)
      have R93 : r 93 = zu (σ 93) (tb σ + tS σ) x2 := (hr 93 (by decide) (by decide) (by decide)).trans ((f9.fr 93 (by decide) (by decide) (by decide)).trans A93)
      have n25 : (σ 90 (σ 82 39).toNatClampNeg + 1).toNatClampNeg = tS σ + 1 := z_succn s24.1 s24.2
      have rb : tb r = tb σ := by unfold tb; rw [h82 39 (by decide)]
      have rS : tS r = tS σ + 1 := by unfold tS; rw [h82 39 (by decide), h90, zu_eq]; exact n25
      have rD : tD r = tD σ := by unfold tD; rw [h82 46 (by decide)]
      have st90 : ∀ t, t ≠ (σ 82 39).toNatClampNeg → r 90 t = σ 90 t := fun t ht => by rw [h90, zu_ne ht]
      have jb : JB σ0 r := by
        obtain ⟨t1, t2, t3, t4, t5, t6, t7, t8⟩ := h.tk
        refine ⟨fun q hq => (F q (by omega) (by omega) (by omega) (by omega) (by omega) (by omega) (by omega) (by omega) (by omega)).trans (h.fr q hq), fun i hi => (h82 i (by omega)).trans (h.ff i hi), ⟨by rw [h82 4 (by decide)]; exact t1, by rw [h82 5 (by decide)]; exact t2, by rw [h82 6 (by decide)]; exact t3, by rw [h82 5 (by decide), h82 6 (by decide)]; exact t4, by rw [h82 7 (by decide), h82 6 (by decide)]; exact t5, by rw [h82 7 (by decide), h82 6 (by decide)]; exact t6, by rw [h82 7 (by decide), h82 8 (by decide)]; exact t7, by rw [F 86 (by decide) (by decide) (by decide) (by decide) (by decide) (by decide) (by decide) (by decide) (by decide)]; exact t8⟩, by rw [h82 5 (by decide)]; exact h.mo, by rw [h82 9 (by decide)]; exact h.fa, by rw [h82 18 (by decide)]; exact h.lc, by rw [h82 15 (by decide)]; exact h.nf, by rw [h82 16 (by decide)]; exact h.nl, by rw [h82 17 (by decide)]; exact h.nt, by rw [h82 19 (by decide)]; exact h.lt, ?_, by rw [h82 39 (by decide)]; exact h.th, by rw [h82 46 (by decide)]; exact h.dp, by rw [h82 25 (by decide)]; exact h.ns⟩
        intro t
        by_cases q : t = (σ 82 39).toNatClampNeg
        · rw [q, h90, zu_eq]
          clear hQ hp h wf wA w9 f9 hA
          generalize σ 90 (σ 82 39).toNatClampNeg = V at *
          grind
        · rw [st90 t q]; exact h.st t
      have as : AS σ r (σ 90 (σ 82 39).toNatClampNeg) x1 x2 := ⟨F, h82, ⟨eS, S24⟩, by rw [R92, zu_eq], by rw [R93, zu_eq], rS, fun i hi => ⟨by rw [R92, zu_ne hi], by rw [R93, zu_ne hi]⟩⟩
      have n9 : r 82 9 = 0 := (h82 9 (by decide)).trans h9
      suffices ps : PS r (some (tb σ + tS σ)) from hQ _ ⟨s24, jb, fun q => absurd n9 q, fun _ => ⟨as, ps, hwf⟩⟩
      obtain ⟨a, b, c, d, g, k⟩ := hp
      have low : ∀ t s : Nat, t < (σ 82 39).toNatClampNeg → s < (σ 90 t).toNatClampNeg → 24 * t + s < tb σ := fun t s h1 h2 => by
        have := z_t24 t h.st
        unfold tb
        omega
      refine ⟨by rw [h82 17 (by decide), h82 39 (by decide)]; exact a, ?_, ?_, ?_, by rw [h82 25 (by decide), h82 17 (by decide), F 91 (by decide) (by decide) (by decide) (by decide) (by decide) (by decide) (by decide) (by decide) (by decide)]; exact g, ?_⟩
      · rw [h82 39 (by decide), h82 19 (by decide)]
        intro t s h1 h2 h3
        have h3' : 24 * t + s ≠ tb σ + tS σ := fun q => h3 (by rw [q])
        have h2' : s < (σ 90 t).toNatClampNeg := by
          by_cases q : t = (σ 82 39).toNatClampNeg
          · rw [q, h90, zu_eq, n25] at h2
            rw [q] at h3' ⊢
            have : (σ 90 (σ 82 39).toNatClampNeg).toNatClampNeg = tS σ := rfl
            omega
          · rw [st90 t q] at h2; exact h2
        refine (b t s h1 h2' (by simp)).of (fun q hq => ?_) ⟨Int32.le_refl _, h.lt.1, Int32.le_trans h.lt.2 (by decide)⟩
        rcases hq with e | e | e | e | e | e
        · rw [e, R92, zu_ne h3']
        · rw [e, R93, zu_ne h3']
        all_goals rw [e, F _ (by decide) (by decide) (by decide) (by decide) (by decide) (by decide) (by decide) (by decide) (by decide)]
      · rw [h82 39 (by decide)]
        intro t s h1 h2
        rw [st90 t (by omega)] at h2 ⊢
        have l := low t s h1 h2
        have e4 : r 94 (24 * t + s) = σ 94 (24 * t + s) := by
          rw [hr 94 (by decide) (by decide) (by decide), f9.b4, if_neg (by rw [Atb]; omega), A94, zu_ne (by omega)]
        have e5 : r 95 (24 * t + s) = σ 95 (24 * t + s) := by
          rw [hr 95 (by decide) (by decide) (by decide), f9.b5, if_neg (by rw [Atb]; omega), A95, zu_ne (by omega)]
        rw [e4, e5, R92, zu_ne (by omega)]
        exact c t s h1 h2
      · rw [h82 19 (by decide), rb, rS]
        simp only [if_true] at d
        simp only [reduceCtorEq, if_false]
        omega
      · rw [rb, rS, rD, F 103 (by decide) (by decide) (by decide) (by decide) (by decide) (by decide) (by decide) (by decide) (by decide), F 104 (by decide) (by decide) (by decide) (by decide) (by decide) (by decide) (by decide) (by decide) (by decide)]
        intro d' hd hk
        obtain ⟨s, s1, s2, s3⟩ := k d' hd hk
        have e93 : r 93 (tb σ + s) = σ 93 (tb σ + s) := by rw [R93, zu_ne (by omega)]
        exact ⟨s, by omega, s2, by rw [e93]; exact s3.1, by rw [e93]; exact s3.2.1, fun q => by have := Option.some.inj q; omega⟩
    have kd9 : r9 92 (tb σ + tS σ) = x1 := by rw [f9.fr 92 (by decide) (by decide) (by decide), A92, zu_eq]
    have kde : (fun s => A 92 (tb σ + s)) = (fun s => r9 92 (tb σ + s)) := by rw [f9.fr 92 (by decide) (by decide) (by decide)]
    rw [kde] at w9
    refine zq_ite (fun c13 => ?_) fun c13 => ?_
    · refine out _ (fun q a b d => by rw [zu_other b]) (fun i hi => by rw [zu_other (by decide)]; exact E82 i hi) (by rw [zx_up_same, E90]) ?_
      rw [if_neg (by rw [c13]; decide)]
      suffices G : WFG (zx_up r9 90 (σ 82 39).toNatClampNeg (σ 90 (σ 82 39).toNatClampNeg + 1)) none (fun k => if own k = 1 then 0 else own k) [] lw from ⟨_, _, _, G⟩
      have w := w9.stop (by show r9 92 (tb σ + tS σ) = 13; rw [kd9]; exact c13)
      unfold WFG
      have e1 : tb (zx_up r9 90 (σ 82 39).toNatClampNeg (σ 90 (σ 82 39).toNatClampNeg + 1)) = tb σ := by unfold tb; rw [zu_other (by decide), E39]
      have e2 : tS (zx_up r9 90 (σ 82 39).toNatClampNeg (σ 90 (σ 82 39).toNatClampNeg + 1)) = tS σ + 1 := by unfold tS; rw [zu_other (p := 82) (by decide), E39, zx_up_same, zu_eq]; exact z_succn s24.1 s24.2
      have e3 : tD (zx_up r9 90 (σ 82 39).toNatClampNeg (σ 90 (σ 82 39).toNatClampNeg + 1)) = tD σ := by unfold tD; rw [zu_other (by decide), E82 46 (by decide)]
      rw [e1, e2, e3]
      have z : ∀ q, q ≠ 90 → zx_up r9 90 (σ 82 39).toNatClampNeg (σ 90 (σ 82 39).toNatClampNeg + 1) q = r9 q := fun q hq => zu_other hq
      rw [z 82 (by decide), z 92 (by decide), z 94 (by decide), z 95 (by decide), z 102 (by decide), z 103 (by decide), z 104 (by decide), z 105 (by decide), f9.op, f9.fr 102 (by decide) (by decide) (by decide), f9.fr 103 (by decide) (by decide) (by decide), f9.fr 104 (by decide) (by decide) (by decide), f9.fr 105 (by decide) (by decide) (by decide), fA 102 (by decide) (by decide) (by decide) (by decide) (by decide) (by decide), fA 103 (by decide) (by decide) (by decide) (by decide) (by decide) (by decide), fA 104 (by decide) (by decide) (by decide) (by decide) (by decide) (by decide), fA 105 (by decide) (by decide) (by decide) (by decide) (by decide) (by decide)]
      exact w
    · -- a new way behind it
      have e2S : (2 * σ 90 (σ 82 39).toNatClampNeg + 0).toInt = ((2 * tS σ : Nat) : Int) := by
        have k2 : (2 : Int32).toInt = 2 := rfl
        have a1 := z_ti_mul (a := 2) (b := σ 90 (σ 82 39).toNatClampNeg) (by rw [k2]; omega) (by rw [k2]; omega)
        rw [k2] at a1
        rw [Int32.add_zero, a1]; omega
      have b2 : 0 ≤ 2 * σ 90 (σ 82 39).toNatClampNeg + 0 ∧ 2 * σ 90 (σ 82 39).toNatClampNeg + 0 < 48 := ⟨Int32.le_iff_toInt_le.mpr (by rw [e2S]; show (0 : Int) ≤ _; omega), Int32.lt_iff_toInt_lt.mpr (by rw [e2S]; show _ < (48 : Int); omega)⟩
      have n2 : (2 * σ 90 (σ 82 39).toNatClampNeg + 0).toNatClampNeg = 2 * tS σ := z_of e2S
      unfold zf_M_wayOf
      refine zq_bind (zq_chk b2 fun _ => ?_)
      show Q (σ 90 (σ 82 39).toNatClampNeg, zx_up (zx_up (zx_up r9 90 (σ 82 39).toNatClampNeg (σ 90 (σ 82 39).toNatClampNeg + 1)) 102 (2 * σ 90 (σ 82 39).toNatClampNeg + 0).toNatClampNeg (-1)) 82 37 (2 * σ 90 (σ 82 39).toNatClampNeg + 0))
      refine out _ (fun q a b d => by rw [zu_other a, zu_other d, zu_other b]) (fun i hi => by rw [zx_up_same, zu_ne hi, zu_other (by decide), zu_other (by decide)]; exact E82 i hi) (by rw [zu_other (by decide), zu_other (by decide), zx_up_same, E90]) ?_
      suffices G : WFG (zx_up (zx_up (zx_up r9 90 (σ 82 39).toNatClampNeg (σ 90 (σ 82 39).toNatClampNeg + 1)) 102 (2 * σ 90 (σ 82 39).toNatClampNeg + 0).toNatClampNeg (-1)) 82 37 (2 * σ 90 (σ 82 39).toNatClampNeg + 0)) (if x1 = 5 ∨ x1 = 6 then some (tS σ) else none) (fun k => if k = 2 * tS σ then 1 else if own k = 1 then 0 else own k) [2 * tS σ] lw from ⟨_, _, _, G⟩
      have w := w9.step (op' := 2 * σ 90 (σ 82 39).toNatClampNeg + 0) (pd' := if x1 = 5 ∨ x1 = 6 then some (tS σ) else none) S24 e2S (by split <;> simp) (by
        intro q
        have q : x1 = 5 ∨ x1 = 6 := by
          have : r9 92 (tb σ + tS σ) = 5 ∨ r9 92 (tb σ + tS σ) = 6 := q
          rw [kd9] at this; exact this
        rw [if_pos q])
      unfold WFG
      generalize hR : zx_up (zx_up (zx_up r9 90 (σ 82 39).toNatClampNeg (σ 90 (σ 82 39).toNatClampNeg + 1)) 102 (2 * σ 90 (σ 82 39).toNatClampNeg + 0).toNatClampNeg (-1)) 82 37 (2 * σ 90 (σ 82 39).toNatClampNeg + 0) = R
      have z : ∀ q, q ≠ 90 → q ≠ 82 → q ≠ 102 → R q = r9 q := fun q a b c => by rw [← hR, zu_other b, zu_other c, zu_other a]
      have z82 : ∀ i, i ≠ 37 → R 82 i = σ 82 i := fun i hi => by rw [← hR, zx_up_same, zu_ne hi, zu_other (by decide), zu_other (by decide)]; exact E82 i hi
      have z37 : R 82 37 = 2 * σ 90 (σ 82 39).toNatClampNeg + 0 := by rw [← hR, zx_up_same, zu_eq]
      have z102 : R 102 = zu (σ 102) (2 * tS σ) (-1) := by rw [← hR, zu_other (by decide), zx_up_same, zu_other (by decide), n2, f9.fr 102 (by decide) (by decide) (by decide), fA 102 (by decide) (by decide) (by decide) (by decide) (by decide) (by decide)]
      have z90 : R 90 = zu (σ 90) (σ 82 39).toNatClampNeg (σ 90 (σ 82 39).toNatClampNeg + 1) := by rw [← hR, zu_other (by decide), zu_other (by decide), zx_up_same, E90]
      have e1 : tb R = tb σ := by unfold tb; rw [z82 39 (by decide)]
      have e2 : tS R = tS σ + 1 := by unfold tS; rw [z82 39 (by decide), z90, zu_eq]; exact z_succn s24.1 s24.2
      have e3 : tD R = tD σ := by unfold tD; rw [z82 46 (by decide)]
      rw [e1, e2, e3, z37, z102, z 92 (by decide) (by decide) (by decide), z 94 (by decide) (by decide) (by decide), z 95 (by decide) (by decide) (by decide), z 103 (by decide) (by decide) (by decide), z 104 (by decide) (by decide) (by decide), z 105 (by decide) (by decide) (by decide), f9.fr 103 (by decide) (by decide) (by decide), f9.fr 104 (by decide) (by decide) (by decide), f9.fr 105 (by decide) (by decide) (by decide), fA 103 (by decide) (by decide) (by decide) (by decide) (by decide) (by decide), fA 104 (by decide) (by decide) (by decide) (by decide) (by decide) (by decide), fA 105 (by decide) (by decide) (by decide) (by decide) (by decide) (by decide)]
      exact w
  · refine zq_bind (q_f_M_fail fun r a b => ?_)
    refine hQ _ ⟨show (0 : Int32) ≤ 0 ∧ (0 : Int32) < 24 by decide, h.to (FF.jq h.q a b), fun _ => a, fun q => absurd q b⟩
