-- both answer alike
set_option maxRecDepth 2000
theorem PRW.of {ρ μ r ν : zS} (h : PRW ρ μ) (e4 : ∀ i, i < 5 → r 4 i = ρ 4 i) (e5 : r 5 = ρ 5) (m82 : ∀ i, i = 15 ∨ i = 16 ∨ i = 17 ∨ i = 25 → ν 82 i = μ 82 i) (m90 : ν 90 = μ 90) (e7 : ∀ q, 7 ≤ q ∧ q ≤ 12 → r q = ρ q) (m97 : ∀ q, 92 ≤ q ∧ q ≤ 97 → ν q = μ q) : PRW r ν := by
  obtain ⟨c, len, h1, h2, h3, h4, h5, h6, h7, h8, h9⟩ := h
  refine ⟨c, len, h1, fun s hs => ⟨by rw [e4 s (by omega)]; exact (h2 s hs).1, by rw [m82 (15 + s) (by omega)]; exact (h2 s hs).2⟩, by rw [e5, m90]; exact h3, by rw [e5]; exact h4, by rw [e4 4 (by decide)]; exact h5, by rw [e4 3 (by decide), m82 25 (by decide)]; exact h6, fun t s ht hs => ?_, h8, by rw [e7 9 (by decide), m97 92 (by decide)]; exact h9⟩
  have k := h7 t s ht hs
  unfold ROW at k ⊢
  rw [e7 7 (by decide), e7 8 (by decide), e7 9 (by decide), e7 10 (by decide), e7 11 (by decide), e7 12 (by decide), m97 92 (by decide), m97 93 (by decide), m97 94 (by decide), m97 95 (by decide), m97 96 (by decide), m97 97 (by decide)]
  exact k
def LO (ρ μ : zS) : Prop := (ρ 2 13 = 0 ∧ μ 82 21 = 0) ∨ (ρ 2 13 = 1 ∧ μ 82 21 = 1 ∧ PRW ρ μ)
theorem p_X_clear {N : Nat} {σ : zS} : zp (zf_Program_clear N σ) (fun r => (∀ q, q ≠ 4 → q ≠ 5 → q ≠ 6 → r q = σ q) ∧ (∀ i, i < 7 → r 4 i = 0) ∧ (∀ i, i < 4 → r 5 i = 0)) := by
  have f5 : ∀ (n i : Nat) (r σ' : zS), i ≤ 4 → (∀ q, q ≠ 5 → r q = σ' q) → (∀ j, j < i → r 5 j = 0) → zp (zb_Arrays_fill_5 N n r 0 (Int32.ofNat i) 4) (fun r => (∀ q, q ≠ 5 → r q = σ' q) ∧ (∀ i, i < 4 → r 5 i = 0)) := by
    intro n
    induction n with
    | zero => intro _ _ _ _ _ _; exact zp_none
    | succ n ih =>
      intro i r σ' hi h1 h2
      rw [zb_Arrays_fill_5]
      refine zp_ite (fun q => zp_some ⟨h1, fun j hj => h2 j ?_⟩) fun q => zp_chk fun _ => ?_
      · have := (zo_le (k := 4) (j := i) (by omega) (by omega)).mp q
        omega
      · have lt : i < 4 := by
          have : ¬ 4 ≤ i := fun x => q ((zo_le (k := 4) (j := i) (by omega) (by omega)).mpr x)
          omega
        rw [zo_n (by omega), zo_1 (by omega)]
        refine ih (i + 1) _ σ' (by omega) (fun q hq => by rw [zu_other hq]; exact h1 q hq) (fun j hj => ?_)
        rw [zx_up_same]
        by_cases e : j = i
        · rw [e, zu_eq]
        · rw [zu_ne e]; exact h2 j (by omega)
  have f6 : ∀ (n : Nat) (r σ' : zS) (v : Int32), (∀ q, q ≠ 6 → r q = σ' q) → zp (zb_Arrays_fill_c1_5 N n r 0 v 4) (fun r => ∀ q, q ≠ 6 → r q = σ' q) := by
    intro n
    induction n with
    | zero => intro _ _ _ _; exact zp_none
    | succ n ih =>
      intro r σ' v h
      rw [zb_Arrays_fill_c1_5]
      exact zp_ite (fun _ => zp_some h) fun _ => zp_chk fun _ => ih _ σ' _ fun q hq => by rw [zu_other hq]; exact h q hq
  unfold zf_Program_clear zf_Arrays_fill zf_Arrays_fill_c1
  generalize hS : (zx_up (zx_up (zx_up (zx_up (zx_up (zx_up (zx_up σ 4 0 0) 4 1 0) 4 2 0) 4 3 0) 4 4 0) 4 5 0) 4 6 0) = S
  have Sq : ∀ q, q ≠ 4 → S q = σ q := fun q hq => by rw [← hS]; iterate 7 rw [zu_other hq]
  have S4 : ∀ i, i < 7 → S 4 i = 0 := fun i hi => by
    rw [← hS]
    match i, hi with
    | 0, _ => simp [zx_up]
    | 1, _ => simp [zx_up]
    | 2, _ => simp [zx_up]
    | 3, _ => simp [zx_up]
    | 4, _ => simp [zx_up]
    | 5, _ => simp [zx_up]
    | 6, _ => simp [zx_up]
  clear hS
  refine zp_bind (zp_mono (f5 N 0 S S (by omega) (fun _ _ => rfl) (fun j hj => absurd hj (Nat.not_lt_zero _))) ?_)
  rintro r1 ⟨a1, a2⟩
  refine zp_bind (zp_mono (f6 N r1 r1 0 fun _ _ => rfl) fun r2 b => zp_some ⟨fun q x y z => ?_, fun i hi => ?_, fun i hi => ?_⟩)
  · rw [b q z, a1 q y, Sq q x]
  · rw [b 4 (by decide), a1 4 (by decide), S4 i hi]
  · rw [b 5 (by decide), a2 i hi]
theorem p_readText {N : Nat} {σ : zS} {τ : zT} (rs : RS τ) (tp : 0 ≤ σ 82 2 ∧ σ 82 2 ≤ 1500) (eq : σ 2 11 = σ 82 2) (te : σ 3 = σ 83) (br : ∀ i, -128 ≤ σ 83 i ∧ σ 83 i ≤ 127) : zp (zf_Reader_readText N σ τ (σ 2 11)) (fun r => ∀ μ, (∀ q, 82 ≤ q → μ q = σ q) → zp (zf_M_read N μ) (fun s => FIN r s)) := by
  unfold zf_Reader_readText zf_Names_clear zf_Weaver_beginThread
  refine zp_bind (zp_mono p_X_clear ?_)
  rintro r1 ⟨c1, c2, c3⟩
  refine zp_bind (zp_some (zp_bind (zp_some ?_)))
  generalize hS : (zx_up (zx_up (zx_up (zx_up (zx_up (zx_up (zx_up (zx_up (zx_up r1 18 3 0) 18 5 0) 29 8 0) 29 6 0) 29 7 (-1)) 29 9 0) 29 10 0) 29 11 0) 29 12 (-1)) = S
  have Sq : ∀ q, q ≠ 18 → q ≠ 29 → S q = r1 q := fun q a b => by
    rw [← hS]
    iterate 7 rw [zu_other b]
    rw [zu_other a, zu_other a]
  have S183 : S 18 3 = 0 := by rw [← hS]; simp [zx_up]
  have S296 : S 29 6 = 0 := by rw [← hS]; simp [zx_up]
  clear hS
  rw [eq]
  refine zp_bind (zp_mono (p_X_scan rs tp) ?_)
  rintro r4 ⟨s1, s2, s3, E, m, xc⟩
  intro r er μ hm
  have S3 : S 3 = σ 83 := by rw [Sq 3 (by decide) (by decide), c1 3 (by decide) (by decide) (by decide), zu_other (by decide), zu_other (by decide)]; exact te
  have go20 : ∀ (n i : Nat) (ν : zS), Int32.ofNat i ≤ σ 82 2 → i ≤ 1500 → (∀ q, q ≠ 84 → q ≠ 82 → ν q = μ q) → ν 82 4 = σ 82 2 → (∀ j, j < i → ν 84 j = σ 83 j) → zp (zb_M_read_20 N n ν (Int32.ofNat i)) (fun s => FIN r s) := by
    intro n
    induction n with
    | zero => intro _ _ _ _ _ _ _; exact zp_none
    | succ n ih =>
      intro i ν hi i15 f4 e4 cp
      rw [zb_M_read_20, e4]
      refine zp_ite (fun q => ?_) fun q => zp_chk fun ck => zp_chk fun _ => ?_
      ·
        have ei : Int32.ofNat i = σ 82 2 := Int32.le_antisymm hi q
        generalize hV : (zx_up (zx_up (zx_up (zx_up (zx_up (zx_up (zx_up (zx_up (zx_up (zx_up (zx_up ν 82 9 0) 82 10 0) 82 15 0) 82 16 0) 82 17 0) 82 25 0) 82 19 0) 82 5 0) 82 6 0) 82 53 0) 82 62 (-1)) = V
        have Vq : ∀ q, q ≠ 82 → V q = ν q := fun q hq => by rw [← hV]; iterate 11 rw [zu_other hq]
        have V4 : V 82 4 = σ 82 2 := by rw [← hV]; simp [zx_up]; exact e4
        have V0 : ∀ i, i = 5 ∨ i = 6 ∨ i = 9 ∨ i = 15 ∨ i = 16 ∨ i = 17 ∨ i = 19 ∨ i = 25 → V 82 i = 0 := fun i hi => by
          rw [← hV]
          rcases hi with h | h | h | h | h | h | h | h <;> subst h <;> simp [zx_up]
        clear hV
        have nat : ∀ x : Int32, 0 ≤ x → x < σ 82 2 → x.toNatClampNeg < i := by
          intro x h0 hx
          rw [← ei] at hx
          have a := z_nat h0
          have b := zo_ti (m := i) (by omega)
          have c := Int32.lt_iff_toInt_lt.mp hx
          omega
        have tbx := xc.tb (b' := V 84) tp.2 (by
          intro x h0 hx
          rw [S3, Vq 84 (by decide), cp _ (nat x h0 hx)])
        obtain ⟨tb, xat⟩ := tbx
        rw [← V4] at tb
        have brV : BR V := by
          intro x h0 hx
          rw [V4] at hx
          rw [Vq 84 (by decide), cp _ (nat x h0 hx)]
          exact br _
        refine zp_bind (zp_mono (p_M_at tb (a := 0) tb.2.2.2.1 (by rw [V0 5 (by decide), V0 6 (by decide), tb.2.2.1]; decide)) ?_)
        rintro ν2 ⟨mat, f2⟩
        have e84 := f2.1 84 (by decide)
        have e24 := f2.2 4 (by decide) (by decide) (by decide) (by decide)
        have z0 : ∀ i, i = 9 ∨ i = 15 ∨ i = 16 ∨ i = 17 ∨ i = 19 ∨ i = 25 → ν2 82 i = 0 := fun i hi => by rw [f2.2 i (by omega) (by omega) (by omega) (by omega)]; exact V0 i (by omega)
        have q17 : r4.1 17 6 = 0 := by rw [s1 17 (by decide) (by decide) (by decide), Sq 17 (by decide) (by decide), c1 17 (by decide) (by decide) (by decide), zx_up_same, zu_ne (by decide), zx_up_same, zu_eq]
        have q4 : ∀ i, i < 7 → r4.1 4 i = 0 := fun i hi => by rw [s1 4 (by decide) (by decide) (by decide), Sq 4 (by decide) (by decide)]; exact c2 i hi
        refine (p_loop (T := (r4.1 26, r4.1 27, r4.2 28, E, m)) (N := N) (N' := N) N r4.1 r4.2 0 0 (Nat.le_refl _)).1 (fun _ => 0) (fun _ _ => 0) (fun _ => 0) ν2 N rfl ⟨⟨xat, q17⟩, ⟨by rw [e84, e24]; exact tb, by unfold BR; rw [e84, e24]; exact brV, mat, z0 9 (by decide)⟩, ?_, ?_, ?_, ?_, fun t ht => absurd ht (Nat.not_lt_zero _)⟩ r er
        · refine ⟨fun s hs => ⟨Nat.zero_le _, q4 s (by omega)⟩, ?_, fun i hi => absurd hi (Nat.not_lt_zero _), fun s k _ hk => absurd hk (Nat.not_lt_zero _), fun i j hi => absurd hi (Nat.not_lt_zero _)⟩
          rw [s1 18 (by decide) (by decide) (by decide)]; exact S183
        · exact fun s hs => ⟨Nat.zero_le _, z0 (15 + s) (by omega), fun k hk => absurd hk (Nat.not_lt_zero _)⟩
        · refine ⟨fun t ht => absurd ht (Nat.not_lt_zero _), fun t _ h4 => ?_, q4 4 (by decide), ⟨by rw [q4 3 (by decide), z0 25 (by decide)], by rw [q4 3 (by decide)]; decide⟩, ⟨by omega, ?_⟩, fun h => absurd h (Nat.lt_irrefl _), fun t s ht => absurd ht (Nat.not_lt_zero _)⟩
          · rw [s1 5 (by decide) (by decide) (by decide), Sq 5 (by decide) (by decide)]; exact c3 t h4
          · rw [s1 29 (by decide) (by decide) (by decide)]; exact S296
        · exact ⟨0, fun _ => 0, fun _ => 0, by omega, z0 19 (by decide), fun l hl => absurd hl (Nat.not_lt_zero _), fun l l' _ hl' => absurd hl' (Nat.not_lt_zero _), fun q hq => absurd hq.1.choose_spec.choose_spec.1 (Nat.not_lt_zero _)⟩
      · have lt := Int32.not_le.mp q
        have i14 : i < 1500 := (zo_lt (k := i) (j := 1500) (by omega) (by omega)).mp ck.2
        rw [zo_n (by omega), zo_1 (by omega)]
        have e83 : ν 83 = σ 83 := by rw [f4 83 (by decide) (by decide), hm 83 (by decide)]
        refine ih (i + 1) _ ?_ (by omega) (fun q a b => by rw [zu_other a]; exact f4 q a b) (by rw [zu_other (by decide)]; exact e4) (fun j hj => ?_)
        · rw [← zo_1 (by omega)]
          have a := Int32.lt_iff_toInt_lt.mp lt
          have b := zo_ti (m := i) (by omega)
          rw [zo_1 (by omega)]
          exact Int32.le_iff_toInt_le.mpr (by rw [zo_ti (by omega)]; omega)
        · rw [zx_up_same]
          by_cases e : j = i
          · rw [e, zu_eq, e83, zk_byte (br i).1 (br i).2]
          · rw [zu_ne e]; exact cp j (by omega)
  unfold zf_M_read
  have e2 : μ 82 2 = σ 82 2 := by rw [hm 82 (by decide)]
  refine go20 N 0 _ tp.1 (by omega) (fun q a b => ?_) ?_ (fun j hj => absurd hj (Nat.not_lt_zero _))
  · rw [zu_other b, zu_other b, zu_other b]
  · rw [zx_up_same, zu_ne (by decide), zx_up_same, zu_eq]; exact e2
theorem p_read {N : Nat} {σ : zS} {τ : zT} (rs : RS τ) (tp : 0 ≤ σ 82 2 ∧ σ 82 2 ≤ 1500) (eq : σ 2 11 = σ 82 2) (te : σ 3 = σ 83) (br : ∀ i, -128 ≤ σ 83 i ∧ σ 83 i ≤ 127) : zp (zf_X_read N σ τ) (fun r => ∀ μ, (∀ q, 82 ≤ q → μ q = σ q) → zp (zf_M_read N μ) (fun s => r.1 = s.1 ∧ LO r.2.1 s.2)) := by
  unfold zf_X_read
  refine zp_bind (zp_mono (p_readText rs tp eq te br) fun r1 h1 => ?_)
  have f40 : ∀ s0 : Int32, zp (zb_X_read_40 N (zx_up (zx_up r1.1 2 11 0) 2 12 (r1.1 17 6)) r1.2 s0) (fun r => r.2.1 2 13 = s0 ∧ (∀ q, q ≠ 2 → q ≠ 75 → q ≠ 76 → r.2.1 q = r1.1 q) ∧ ((s0 = 0 ∧ r.1 = -1000 - r1.1 17 7) ∨ (s0 ≠ 0 ∧ r.1 = r1.1 4 4))) := by
    intro s0
    unfold zb_X_read_40 zf_Judge_forget zf_Arrays_fill_c2
    refine zp_chk fun _ => zp_bind (zp_some ?_)
    have fl : ∀ (n : Nat) (r σ' : zS) (v : Int32), (∀ q, q ≠ 75 → r q = σ' q) → zp (zb_Arrays_fill_c2_5 N n r (-1) v 6) (fun r => ∀ q, q ≠ 75 → r q = σ' q) := by
      intro n
      induction n with
      | zero => intro _ _ _ _; exact zp_none
      | succ n ih =>
        intro r σ' v h
        rw [zb_Arrays_fill_c2_5]
        exact zp_ite (fun _ => zp_some h) fun _ => zp_chk fun _ => ih _ σ' _ fun q hq => by rw [zu_other hq]; exact h q hq
    refine zp_bind (zp_mono (fl N _ _ 0 fun _ _ => rfl) fun r5 h5 => ?_)
    have e13 : r5 2 13 = s0 := by rw [h5 2 (by decide)]; simp [zx_up]
    have eq' : ∀ q, q ≠ 2 → q ≠ 75 → q ≠ 76 → r5 q = r1.1 q := fun q a b c => by
      rw [h5 q b, zu_other c]
      iterate 6 rw [zu_other a]
    refine zp_ite (fun z => zp_some ⟨e13, eq', Or.inl ⟨e13.symm.trans z, ?_⟩⟩) fun z => zp_some ⟨e13, eq', Or.inr ⟨fun x => z (e13.trans x), ?_⟩⟩
    · dsimp only; rw [eq' 17 (by decide) (by decide) (by decide)]
    · dsimp only; rw [eq' 4 (by decide) (by decide) (by decide)]
  refine zp_ite (fun z => zp_mono (f40 0) fun r hr μ hm => zp_mono (h1 μ hm) fun s hs => ?_) fun z => zp_mono (f40 1) fun r hr μ hm => zp_mono (h1 μ hm) fun s hs => ?_
  · obtain ⟨r13, rq, rr⟩ := hr
    rcases hs with ⟨p, x, e, e21⟩ | ⟨h17, _⟩
    · rcases rr with ⟨_, rr⟩ | ⟨q, _⟩
      · exact ⟨by rw [rr, e, x.2], Or.inl ⟨r13, e21⟩⟩
      · exact absurd rfl q
    · exact absurd h17 z
  · obtain ⟨r13, rq, rr⟩ := hr
    rcases hs with ⟨p, x, e, e21⟩ | ⟨h17, e, e21, pr⟩
    · exact absurd (Classical.not_not.mp z) x.1
    · rcases rr with ⟨q, _⟩ | ⟨_, rr⟩
      · exact absurd q (by decide)
      · exact ⟨by rw [rr, e], Or.inr ⟨r13, e21, pr.of (fun i _ => by rw [rq 4 (by decide) (by decide) (by decide)]) (rq 5 (by decide) (by decide) (by decide)) (fun _ _ => rfl) rfl (fun q hq => rq q (by omega) (by omega) (by omega)) (fun _ _ => rfl)⟩⟩
