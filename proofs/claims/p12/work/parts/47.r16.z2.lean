-- both answer alike
set_option maxRecDepth 2000
def SPB (σ : zS) (b : Nat) : Prop := LOW (σ 6 b) ∧ ∀ t, t < 24 → (bit (σ 6 b) t ↔ (t < 4 ∧ ∃ s, s < 24 ∧ Int32.ofNat s < σ 5 t ∧ σ 7 (24 * t + s) = 10 ∧ σ 8 (24 * t + s) = Int32.ofNat b))
def SI (ρ r : zS) (q : Nat) : Prop := ∀ b, b < 4 → LOW (r 6 b) ∧ ∀ t, t < 24 → (bit (r 6 b) t ↔ (t < 4 ∧ ∃ s, s < 24 ∧ 24 * t + s < q ∧ Int32.ofNat s < ρ 5 t ∧ ρ 7 (24 * t + s) = 10 ∧ r 8 (24 * t + s) = Int32.ofNat b))
theorem SI.skip {ρ r r' : zS} {q : Nat} (h : SI ρ r q) (no : ¬ (Int32.ofNat (q % 24) < ρ 5 (q / 24) ∧ ρ 7 q = 10)) (e6 : r' 6 = r 6) (e8 : ∀ j, j ≠ q → r' 8 j = r 8 j) : SI ρ r' (q + 1) := by
  intro b hb
  obtain ⟨h1, h2⟩ := h b hb
  rw [e6]
  refine ⟨h1, fun t ht => ?_⟩
  rw [h2 t ht]
  constructor
  · rintro ⟨t4, s, a1, a2, a3, a4, a5⟩
    exact ⟨t4, s, a1, by omega, a3, a4, by rw [e8 _ (by omega)]; exact a5⟩
  · rintro ⟨t4, s, a1, a2, a3, a4, a5⟩
    have ne : 24 * t + s ≠ q := fun e => by
      rw [e] at a4
      refine no ⟨?_, a4⟩
      rw [show q % 24 = s by omega, show q / 24 = t by omega]
      exact a3
    rw [e8 _ ne] at a5
    exact ⟨t4, s, a1, by omega, a3, a4, a5⟩
theorem SI.hit {ρ r r' : zS} {q k : Nat} (h : SI ρ r q) (q96 : q < 96) (hk : k < 4) (lt : Int32.ofNat (q % 24) < ρ 5 (q / 24)) (k10 : ρ 7 q = 10) (e6 : ∀ b, b ≠ k → r' 6 b = r 6 b) (e6k : r' 6 k = r 6 k ||| zJ_shl 1 (Int32.ofNat (q / 24))) (e8 : ∀ j, j ≠ q → r' 8 j = r 8 j) (e8q : r' 8 q = Int32.ofNat k) : SI ρ r' (q + 1) := by
  intro b hb
  obtain ⟨h1, h2⟩ := h b hb
  have eq : 24 * (q / 24) + q % 24 = q := by omega
  by_cases c : b = k
  · subst c
    rw [e6k]
    refine ⟨h1.or (LOW.shl (by omega)), fun t ht => ?_⟩
    rw [bit_or ht, bit_shl (by omega) ht, h2 t ht]
    constructor
    · rintro (⟨t4, s, a1, a2, a3, a4, a5⟩ | e)
      · exact ⟨t4, s, a1, by omega, a3, a4, by rw [e8 _ (by omega)]; exact a5⟩
      · rw [e]
        exact ⟨by omega, q % 24, by omega, by omega, lt, by rw [eq]; exact k10, by rw [eq]; exact e8q⟩
    · rintro ⟨t4, s, a1, a2, a3, a4, a5⟩
      by_cases ne : 24 * t + s = q
      · exact Or.inr (by omega)
      · rw [e8 _ ne] at a5
        exact Or.inl ⟨t4, s, a1, by omega, a3, a4, a5⟩
  · rw [e6 b c]
    refine ⟨h1, fun t ht => ?_⟩
    rw [h2 t ht]
    constructor
    · rintro ⟨t4, s, a1, a2, a3, a4, a5⟩
      exact ⟨t4, s, a1, by omega, a3, a4, by rw [e8 _ (by omega)]; exact a5⟩
    · rintro ⟨t4, s, a1, a2, a3, a4, a5⟩
      have ne : 24 * t + s ≠ q := fun e => by
        rw [e, e8q] at a5
        exact c (zo_inj (by omega) (by omega) a5).symm
      rw [e8 _ ne] at a5
      exact ⟨t4, s, a1, by omega, a3, a4, a5⟩
theorem y_number {N : Nat} {σ : zS} {τ : zT} {w : Int64} (h : ∀ i : Nat, i < 14 → Int32.ofNat i < σ 18 3 → σ 20 i = 2 → 0 ≤ σ 21 i ∧ σ 21 i < 4) : zp (zf_Names_numberOf N σ τ w 2) (fun v => v = -1 ∨ (0 ≤ v ∧ v < 4)) := by
  unfold zf_Names_numberOf
  have go : ∀ (n : Nat) (i : Int32), zp (zb_Names_numberOf_3 N n σ τ w 2 i) (fun v => v = -1 ∨ (0 ≤ v ∧ v < 4)) := by
    intro n
    induction n with
    | zero => intro _; exact zp_none
    | succ n ih =>
      intro i
      rw [zb_Names_numberOf_3]
      unfold zb_Names_numberOf_50
      refine zp_ite (fun _ => zp_some (Or.inl rfl)) fun c0 => zp_ite (fun _ => zp_some (Or.inl rfl)) fun c1 => zp_chk fun k => zp_ite (fun _ => ih _) fun _ => zp_chk fun _ => zp_ite (fun _ => ih _) fun e => zp_chk fun _ => zp_some (Or.inr ?_)
      have it : Int32.ofNat i.toNatClampNeg = i := zo_mk k.1
      have n := z_nat k.1
      have b := Int32.lt_iff_toInt_lt.mp k.2
      have k14 : (14 : Int32).toInt = 14 := rfl
      exact h i.toNatClampNeg (by omega) (by rw [it]; exact Int32.not_le.mp c0) (Classical.not_not.mp e)
  exact go N 0
theorem p_starters {N : Nat} {ρ : zS} {τ : zT} (z6 : Z6 ρ ρ) : zp (zb_Reader_readText_93 N ρ τ) (fun r => r.1 17 6 = 0 → ∀ b, b < 4 → SPB r.1 b) := by
  unfold zb_Reader_readText_93
  have go : ∀ (n q : Nat) (r : zS), q ≤ 96 → FT0 ρ r → SI ρ r q → zp (zb_Reader_readText_95 N n r τ (Int32.ofNat q)) (fun r => r.1 17 6 = 0 → ∀ b, b < 4 → SPB r.1 b) := by
    intro n
    induction n with
    | zero => intro _ _ _ _ _; exact zp_none
    | succ n ih =>
      intro q r hq fr si
      rw [zb_Reader_readText_95]
      refine zp_ite (fun z => zp_some fun _ b hb => ?_) fun z => zp_ite (fun y => zp_some fun w => absurd w y) fun y => ?_
      · have q96 : 96 ≤ q := (zo_le (k := 96) (j := q) (by omega) (by omega)).mp z
        obtain ⟨s1, s2⟩ := si b hb
        refine ⟨s1, fun t ht => ?_⟩
        dsimp only
        rw [s2 t ht, fr 5 (by decide) (by decide), fr 7 (by decide) (by decide)]
        constructor
        · rintro ⟨t4, s, a1, a2, a3⟩
          exact ⟨t4, s, a1, a3⟩
        · rintro ⟨t4, s, a1, a3⟩
          exact ⟨t4, s, a1, by omega, a3⟩
      · have q96 : q < 96 := by
          have : ¬ 96 ≤ q := fun x => z ((zo_le (k := 96) (j := q) (by omega) (by omega)).mpr x)
          omega
        have dm := z_dm96 ⟨q, q96⟩
        dsimp only at dm
        have eq : 24 * (q / 24) + q % 24 = q := by omega
        unfold zf_Reader_findThread
        rw [dm.1, dm.2, zo_1 (by omega)]
        have same : ¬ (Int32.ofNat (q % 24) < ρ 5 (q / 24) ∧ ρ 7 q = 10) → zp (zb_Reader_readText_95 N n r τ (Int32.ofNat (q + 1))) (fun r => r.1 17 6 = 0 → ∀ b, b < 4 → SPB r.1 b) := fun no => ih (q + 1) r (by omega) fr (si.skip no rfl fun _ _ => rfl)
        refine zp_bind (zp_bind (zp_mono (p_X_slotOf2 (by omega) (by omega)) fun r1 h1 => ?_))
        rw [fr 5 (by decide) (by decide)] at h1
        rcases h1 with ⟨lt, e1⟩ | ⟨nl, e1⟩
        · rw [eq] at e1
          subst e1
          rw [zo_n (by omega), fr 7 (by decide) (by decide)]
          have f45 : zp (zb_Reader_findThread_45 N r τ (Int32.ofNat q)) (fun r8 => zp (zb_Reader_readText_95 N n r8 τ (Int32.ofNat (q + 1))) (fun r => r.1 17 6 = 0 → ∀ b, b < 4 → SPB r.1 b)) := by
            unfold zb_Reader_findThread_45
            rw [zo_n (by omega)]
            refine zp_chk fun _ => zp_bind (zp_mono (y_number (by rw [fr 18 (by decide) (by decide), fr 20 (by decide) (by decide), fr 21 (by decide) (by decide)]; exact z6.2.2.2)) fun r6 h6 => zp_ite (fun x => ?_) fun x => zp_chk fun _ => zp_some ?_)
            · have h6 := h6.resolve_left x
              have kt : Int32.ofNat r6.toNatClampNeg = r6 := zo_mk h6.1
              have kn := z_nat h6.1
              have kb := Int32.lt_iff_toInt_lt.mp h6.2
              have k4' : (4 : Int32).toInt = 4 := rfl
              have k4 : r6.toNatClampNeg < 4 := by omega
              refine zp_bind ?_
              unfold zf_Program_setThread
              rw [zo_n (m := q) (by omega), dm.1]
              refine zp_ite (fun w => ?_) fun _ => zp_ite (fun w => ?_) fun _ => zp_ite (fun w => absurd h6.1 (Int32.not_le.mpr w)) fun _ => zp_ite (fun w => absurd h6.2 (Int32.not_lt.mpr w)) fun _ => zp_chk fun _ => zp_chk fun _ => zp_ite (fun n10 => zp_some (zp_some ?_)) fun y10 => zp_chk fun _ => zp_chk fun _ => zp_some (zp_some ?_)
              · have := (zo_lt (k := q) (j := 0) (by omega) (by omega)).mp w
                omega
              · have := (zo_le (k := 96) (j := q) (by omega) (by omega)).mp w
                omega
              · refine ih (q + 1) _ (by omega) (fun p a b => by rw [zu_other b]; exact fr p a b) (si.skip (fun w => n10 ?_) (zu_other (by decide)) fun j hj => ?_)
                · rw [fr 7 (by decide) (by decide)]; exact w.2
                · rw [zx_up_same, zu_ne hj]
              · refine ih (q + 1) _ (by omega) (fun p a b => by rw [zu_other a, zu_other b]; exact fr p a b) (si.hit q96 k4 lt ?_ (fun b hb => ?_) ?_ (fun j hj => ?_) ?_)
                · have := Classical.not_not.mp y10
                  rw [fr 7 (by decide) (by decide)] at this
                  exact this
                · rw [zx_up_same, zu_ne hb, zu_other (by decide)]
                · rw [zx_up_same, zu_eq]
                · rw [zu_other (by decide), zx_up_same, zu_ne hj]
                · rw [zu_other (by decide), zx_up_same, zu_eq, kt]
            · have fl : ¬ (zx_up (zx_up r 17 6 5) 17 7 (r 24 q)) 17 6 = 0 := by
                rw [zx_up_same, zu_ne (by decide), zx_up_same, zu_eq]; decide
              cases n with
              | zero => exact zp_none
              | succ n =>
                rw [zb_Reader_readText_95]
                exact zp_ite (fun _ => zp_some fun w => absurd w fl) fun _ => zp_ite (fun _ => zp_some fun w => absurd w fl) fun y => absurd fl y
          refine zp_chk fun _ => zp_ite (fun x => ?_) fun _ => zp_ite (fun _ => f45) fun k10 => zp_ite (fun _ => f45) fun _ => zp_some (same fun w => k10 w.2)
          have := (zo_le (k := 96) (j := q) (by omega) (by omega)).mp x
          omega
        · subst e1
          exact zp_chk fun _ => zp_ite (fun _ => zp_some (same fun w => nl w.1)) fun x => absurd (by decide) x
  refine go N 0 ρ (Nat.zero_le _) (fun _ _ _ => rfl) fun b hb => ?_
  rw [z6.1 b hb]
  exact ⟨LOW.zero, fun t ht => ⟨fun w => absurd w (bit_zero ht), fun ⟨_, s, _, w, _⟩ => absurd w (Nat.not_lt_zero _)⟩⟩
theorem st_42 {N : Nat} : ∀ (n : Nat) (σ : zS) (τ : zT) (v : Int32), Z6 σ σ → zp (zb_Reader_readText_42 N n σ τ v) (fun r => r.1 17 6 = 0 → ∀ b, b < 4 → SPB r.1 b) := by
  intro n
  induction n with
  | zero => intro _ _ _ _; exact zp_none
  | succ n ih =>
    intro σ τ v z
    rw [zb_Reader_readText_42]
    unfold zb_Reader_readText_87
    exact zp_ite (fun _ => p_starters z) fun _ => zp_ite (fun _ => p_starters z) fun _ => zp_ite (fun _ => zp_ite (fun _ => p_starters z) fun _ => zp_bind (zp_mono (wy_f_Reader_readTelling z) fun r h => ih _ _ _ h)) fun _ => zp_bind (zp_mono (wy_f_Reader_readStatement z) fun r h => ih _ _ _ h)
theorem y_clear {N : Nat} {σ : zS} : zp (zf_Program_clear N σ) (fun r => ∀ b, b < 4 → r 6 b = 0) := by
  have f6 : ∀ (n i : Nat) (r : zS), i ≤ 4 → (∀ j, j < i → r 6 j = 0) → zp (zb_Arrays_fill_c1_5 N n r 0 (Int32.ofNat i) 4) (fun r => ∀ b, b < 4 → r 6 b = 0) := by
    intro n
    induction n with
    | zero => intro _ _ _ _; exact zp_none
    | succ n ih =>
      intro i r hi h
      rw [zb_Arrays_fill_c1_5]
      refine zp_ite (fun q => zp_some fun j hj => h j ?_) fun q => zp_chk fun _ => ?_
      · have := (zo_le (k := 4) (j := i) (by omega) (by omega)).mp q
        omega
      · have lt : i < 4 := by
          have : ¬ 4 ≤ i := fun x => q ((zo_le (k := 4) (j := i) (by omega) (by omega)).mpr x)
          omega
        rw [zo_n (by omega), zo_1 (by omega)]
        refine ih (i + 1) _ (by omega) fun j hj => ?_
        rw [zx_up_same]
        by_cases e : j = i
        · rw [e, zu_eq]
        · rw [zu_ne e]; exact h j (by omega)
  unfold zf_Program_clear zf_Arrays_fill_c1
  exact zp_bind fun r1 _ => zp_bind (zp_mono (f6 N 0 r1 (by omega) fun j hj => absurd hj (Nat.not_lt_zero _)) fun r2 h => zp_some h)
theorem st_readText {N : Nat} {σ : zS} {τ : zT} {x : Int32} : zp (zf_Reader_readText N σ τ x) (fun r => r.1 17 6 = 0 → ∀ b, b < 4 → SPB r.1 b) := by
  unfold zf_Reader_readText
  refine zp_bind (zp_mono (zp_and p_X_clear y_clear) fun r1 h1 => ?_)
  have nc : zp (zf_Names_clear r1) (fun r => Z6 r r) := by
    unfold zf_Names_clear
    refine zp_some ⟨fun b hb => ?_, ?_, ?_, fun i _ lt => ?_⟩
    · rw [zu_other (by decide), zu_other (by decide)]; exact h1.2 b hb
    · rw [zu_other (by decide), zu_other (by decide), h1.1.2.1 2 (by decide)]; decide
    · rw [zx_up_same, zu_ne (by decide), zx_up_same, zu_eq]; decide
    · rw [zx_up_same, zu_ne (by decide), zx_up_same, zu_eq] at lt
      have := (zo_lt (k := i) (j := 0) (by omega) (by omega)).mp lt
      omega
  exact zp_bind (zp_mono nc fun r2 h2 => zp_bind (zp_mono (wy_f_Weaver_beginThread h2) fun r3 h3 => zp_bind (zp_mono (wy_f_Tokens_scan h3) fun r4 h4 => st_42 N r4.1 r4.2 0 h4)))
theorem y_fill {N : Nat} {σ : zS} {x : Int32} : zp (zf_Arrays_fill_c2 N σ x) (fun r => ∀ q, q ≠ 75 → r q = σ q) := by
  unfold zf_Arrays_fill_c2
  have go : ∀ (n : Nat) (r : zS) (a b : Int32), (∀ q, q ≠ 75 → r q = σ q) → zp (zb_Arrays_fill_c2_5 N n r x a b) (fun r => ∀ q, q ≠ 75 → r q = σ q) := by
    intro n
    induction n with
    | zero => intro _ _ _ _; exact zp_none
    | succ n ih =>
      intro r a b h
      rw [zb_Arrays_fill_c2_5]
      exact zp_ite (fun _ => zp_some h) fun _ => zp_chk fun _ => ih _ _ _ fun q hq => by rw [zu_other hq]; exact h q hq
  exact go N σ _ _ fun _ _ => rfl
theorem st_read {N : Nat} {σ : zS} {τ : zT} : zp (zf_X_read N σ τ) (fun r => (r.2.1 2 13 = 1 → ∀ b, b < 4 → SPB r.2.1 b) ∧ r.2.1 76 5 = 0) := by
  unfold zf_X_read
  refine zp_bind (zp_mono st_readText fun r1 h1 => ?_)
  have A : ∀ s0 : Int32, (s0 = 1 → r1.1 17 6 = 0) → zp (zb_X_read_40 N (zx_up (zx_up r1.1 2 11 0) 2 12 (r1.1 17 6)) r1.2 s0) (fun r => (r.2.1 2 13 = 1 → ∀ b, b < 4 → SPB r.2.1 b) ∧ r.2.1 76 5 = 0) := by
    intro s0 hs0
    unfold zb_X_read_40 zf_Judge_forget
    refine zp_chk fun _ => zp_bind (zp_some (zp_bind (zp_mono y_fill fun r5 h5 => ?_)))
    have e : ∀ q, q ≠ 2 → q ≠ 75 → q ≠ 76 → r5 q = r1.1 q := fun q a b c => by
      rw [h5 q b, zu_other c, zu_other a, zu_other a, zu_other a, zu_other a, zu_other a, zu_other a]
    have e13 : r5 2 13 = s0 := by
      rw [h5 2 (by decide), zu_other (by decide), zx_up_same, zu_ne (by decide), zx_up_same, zu_ne (by decide), zx_up_same, zu_ne (by decide), zx_up_same, zu_eq]
    have P : (r5 2 13 = 1 → ∀ b, b < 4 → SPB r5 b) ∧ r5 76 5 = 0 := by
      refine ⟨fun w b hb => ?_, ?_⟩
      · have k := h1 (hs0 (e13.symm.trans w)) b hb
        unfold SPB at *
        rw [e 5 (by decide) (by decide) (by decide), e 6 (by decide) (by decide) (by decide), e 7 (by decide) (by decide) (by decide), e 8 (by decide) (by decide) (by decide)]
        exact k
      · rw [h5 76 (by decide), zx_up_same, zu_eq]
    exact zp_ite (fun _ => zp_some P) fun _ => zp_some P
  exact zp_ite (fun y => A 0 fun w => absurd w (by decide)) fun y => A 1 fun _ => Classical.not_not.mp y
