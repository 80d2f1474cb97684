-- both answer alike
set_option maxRecDepth 2000
theorem p_readTextF {N : Nat} {σ : zS} {τ : zT} (rs : RS τ) (tp : 0 ≤ σ 82 2 ∧ σ 82 2 ≤ 1500) (eq : σ 2 11 = σ 82 2) (te : σ 3 = σ 83) (br : ∀ i, -128 ≤ σ 83 i ∧ σ 83 i ≤ 127) : zp (zf_Reader_readText N σ τ (σ 2 11)) (fun r => ∀ μ, (∀ q, 82 ≤ q → μ q = σ q) → zp (zf_M_read N μ) (fun s => r.1 17 6 = 0 → FLG r.1 s.2 ∧ SLT r.1)) := by
  unfold zf_Reader_readText zf_Names_clear zf_Weaver_beginThread
  refine zp_bind (zp_mono p_X_clear ?_)
  rintro r1 ⟨c1, c2, c3⟩
  refine zp_bind (zp_some (zp_bind (zp_some ?_)))
  generalize hS : (zx_up (zx_up (zx_up (zx_up (zx_up (zx_up (zx_up (zx_up (zx_up r1 18 3 0) 18 5 0) 29 8 0) 29 6 0) 29 7 (-1)) 29 9 0) 29 10 0) 29 11 0) 29 12 (-1)) = S
  have Sq : ∀ q, q ≠ 18 → q ≠ 29 → S q = r1 q := fun q a b => by
    rw [← hS]
    iterate 7 rw [zu_other b]
    rw [zu_other a, zu_other a]
  have S183 : S 18 3 = 0 := by rw [← hS]; simp [zx_up]
  have S296 : S 29 6 = 0 := by rw [← hS]; simp [zx_up]
  clear hS
  rw [eq]
  refine zp_bind (zp_mono (p_X_scan rs tp) ?_)
  rintro r4 ⟨s1, s2, s3, E, m, xc⟩
  intro r er μ hm
  have S3 : S 3 = σ 83 := by rw [Sq 3 (by decide) (by decide), c1 3 (by decide) (by decide) (by decide), zu_other (by decide), zu_other (by decide)]; exact te
  have go20 : ∀ (n i : Nat) (ν : zS), Int32.ofNat i ≤ σ 82 2 → i ≤ 1500 → (∀ q, q ≠ 84 → q ≠ 82 → ν q = μ q) → ν 82 4 = σ 82 2 → (∀ j, j < i → ν 84 j = σ 83 j) → zp (zb_M_read_20 N n ν (Int32.ofNat i)) (fun s => r.1 17 6 = 0 → FLG r.1 s.2 ∧ SLT r.1) := by
    intro n
    induction n with
    | zero => intro _ _ _ _ _ _ _; exact zp_none
    | succ n ih =>
      intro i ν hi i15 f4 e4 cp
      rw [zb_M_read_20, e4]
      refine zp_ite (fun q => ?_) fun q => zp_chk fun ck => zp_chk fun _ => ?_
      ·
        have ei : Int32.ofNat i = σ 82 2 := Int32.le_antisymm hi q
        generalize hV : (zx_up (zx_up (zx_up (zx_up (zx_up (zx_up (zx_up (zx_up (zx_up (zx_up (zx_up ν 82 9 0) 82 10 0) 82 15 0) 82 16 0) 82 17 0) 82 25 0) 82 19 0) 82 5 0) 82 6 0) 82 53 0) 82 62 (-1)) = V
        have Vq : ∀ q, q ≠ 82 → V q = ν q := fun q hq => by rw [← hV]; iterate 11 rw [zu_other hq]
        have V4 : V 82 4 = σ 82 2 := by rw [← hV]; simp [zx_up]; exact e4
        have V0 : ∀ i, i = 5 ∨ i = 6 ∨ i = 9 ∨ i = 15 ∨ i = 16 ∨ i = 17 ∨ i = 19 ∨ i = 25 → V 82 i = 0 := fun i hi => by
          rw [← hV]
          rcases hi with h | h | h | h | h | h | h | h <;> subst h <;> simp [zx_up]
        clear hV
        have nat : ∀ x : Int32, 0 ≤ x → x < σ 82 2 → x.toNatClampNeg < i := by
          intro x h0 hx
          rw [← ei] at hx
          have a := z_nat h0
          have b := zo_ti (m := i) (by omega)
          have c := Int32.lt_iff_toInt_lt.mp hx
          omega
        have tbx := xc.tb (b' := V 84) tp.2 (by
          intro x h0 hx
          rw [S3, Vq 84 (by decide), cp _ (nat x h0 hx)])
        obtain ⟨tb, xat⟩ := tbx
        rw [← V4] at tb
        have brV : BR V := by
          intro x h0 hx
          rw [V4] at hx
          rw [Vq 84 (by decide), cp _ (nat x h0 hx)]
          exact br _
        refine zp_bind (zp_mono (p_M_at tb (a := 0) tb.2.2.2.1 (by rw [V0 5 (by decide), V0 6 (by decide), tb.2.2.1]; decide)) ?_)
        rintro ν2 ⟨mat, f2⟩
        have e84 := f2.1 84 (by decide)
        have e24 := f2.2 4 (by decide) (by decide) (by decide) (by decide)
        have z0 : ∀ i, i = 9 ∨ i = 15 ∨ i = 16 ∨ i = 17 ∨ i = 19 ∨ i = 25 → ν2 82 i = 0 := fun i hi => by rw [f2.2 i (by omega) (by omega) (by omega) (by omega)]; exact V0 i (by omega)
        have q17 : r4.1 17 6 = 0 := by rw [s1 17 (by decide) (by decide) (by decide), Sq 17 (by decide) (by decide), c1 17 (by decide) (by decide) (by decide), zx_up_same, zu_ne (by decide), zx_up_same, zu_eq]
        have q4 : ∀ i, i < 7 → r4.1 4 i = 0 := fun i hi => by rw [s1 4 (by decide) (by decide) (by decide), Sq 4 (by decide) (by decide)]; exact c2 i hi
        refine p_loopF (T := (r4.1 26, r4.1 27, r4.2 28, E, m)) (N := N) (N' := N) N r4.1 r4.2 0 0 (Nat.le_refl _) (fun _ => 0) (fun _ _ => 0) (fun _ => 0) ν2 N rfl ⟨⟨xat, q17⟩, ⟨by rw [e84, e24]; exact tb, by unfold BR; rw [e84, e24]; exact brV, mat, z0 9 (by decide)⟩, ?_, ?_, ?_, ?_, fun t ht => absurd ht (Nat.not_lt_zero _)⟩ ⟨fun f _ lt => ?_, fun f hf _ => ?_⟩ r er
        · refine ⟨fun s hs => ⟨Nat.zero_le _, q4 s (by omega)⟩, ?_, fun i hi => absurd hi (Nat.not_lt_zero _), fun s k _ hk => absurd hk (Nat.not_lt_zero _), fun i j hi => absurd hi (Nat.not_lt_zero _)⟩
          rw [s1 18 (by decide) (by decide) (by decide)]; exact S183
        · exact fun s hs => ⟨Nat.zero_le _, z0 (15 + s) (by omega), fun k hk => absurd hk (Nat.not_lt_zero _)⟩
        · refine ⟨fun t ht => absurd ht (Nat.not_lt_zero _), fun t _ h4 => ?_, q4 4 (by decide), ⟨by rw [q4 3 (by decide), z0 25 (by decide)], by rw [q4 3 (by decide)]; decide⟩, ⟨by omega, ?_⟩, fun h => absurd h (Nat.lt_irrefl _), fun t s ht => absurd ht (Nat.not_lt_zero _)⟩
          · rw [s1 5 (by decide) (by decide) (by decide), Sq 5 (by decide) (by decide)]; exact c3 t h4
          · rw [s1 29 (by decide) (by decide) (by decide)]; exact S296
        · exact ⟨0, fun _ => 0, fun _ => 0, by omega, z0 19 (by decide), fun l hl => absurd hl (Nat.not_lt_zero _), fun l l' _ hl' => absurd hl' (Nat.not_lt_zero _), fun q hq => absurd hq.1.choose_spec.choose_spec.1 (Nat.not_lt_zero _)⟩
        · rw [q4 0 (by decide)] at lt
          have := (zo_lt (k := f) (j := 0) (by omega) (by omega)).mp lt
          omega
        · rw [q4 6 (by decide)]
          exact bit_zero hf
      · have lt := Int32.not_le.mp q
        have i14 : i < 1500 := (zo_lt (k := i) (j := 1500) (by omega) (by omega)).mp ck.2
        rw [zo_n (by omega), zo_1 (by omega)]
        have e83 : ν 83 = σ 83 := by rw [f4 83 (by decide) (by decide), hm 83 (by decide)]
        refine ih (i + 1) _ ?_ (by omega) (fun q a b => by rw [zu_other a]; exact f4 q a b) (by rw [zu_other (by decide)]; exact e4) (fun j hj => ?_)
        · rw [← zo_1 (by omega)]
          have a := Int32.lt_iff_toInt_lt.mp lt
          have b := zo_ti (m := i) (by omega)
          rw [zo_1 (by omega)]
          exact Int32.le_iff_toInt_le.mpr (by rw [zo_ti (by omega)]; omega)
        · rw [zx_up_same]
          by_cases e : j = i
          · rw [e, zu_eq, e83, zk_byte (br i).1 (br i).2]
          · rw [zu_ne e]; exact cp j (by omega)
  unfold zf_M_read
  have e2 : μ 82 2 = σ 82 2 := by rw [hm 82 (by decide)]
  refine go20 N 0 _ tp.1 (by omega) (fun q a b => ?_) ?_ (fun j hj => absurd hj (Nat.not_lt_zero _))
  · rw [zu_other b, zu_other b, zu_other b]
  · rw [zx_up_same, zu_ne (by decide), zx_up_same, zu_eq]; exact e2
theorem p_readF {N : Nat} {σ : zS} {τ : zT} (rs : RS τ) (tp : 0 ≤ σ 82 2 ∧ σ 82 2 ≤ 1500) (eq : σ 2 11 = σ 82 2) (te : σ 3 = σ 83) (br : ∀ i, -128 ≤ σ 83 i ∧ σ 83 i ≤ 127) : zp (zf_X_read N σ τ) (fun r => ∀ μ, (∀ q, 82 ≤ q → μ q = σ q) → zp (zf_M_read N μ) (fun s => r.2.1 2 13 = 1 → FLG r.2.1 s.2 ∧ SLT r.2.1)) := by
  unfold zf_X_read
  refine zp_bind (zp_mono (p_readTextF rs tp eq te br) fun r1 h1 => ?_)
  have f40 : ∀ s0 : Int32, zp (zb_X_read_40 N (zx_up (zx_up r1.1 2 11 0) 2 12 (r1.1 17 6)) r1.2 s0) (fun r => r.2.1 2 13 = s0 ∧ ∀ q, q ≠ 2 → q ≠ 75 → q ≠ 76 → r.2.1 q = r1.1 q) := by
    intro s0
    unfold zb_X_read_40 zf_Judge_forget
    refine zp_chk fun _ => zp_bind (zp_some (zp_bind (zp_mono y_fill fun r5 h5 => ?_)))
    have e13 : r5 2 13 = s0 := by
      rw [h5 2 (by decide), zu_other (by decide), zx_up_same, zu_ne (by decide), zx_up_same, zu_ne (by decide), zx_up_same, zu_ne (by decide), zx_up_same, zu_eq]
    have e4 : ∀ q, q ≠ 2 → q ≠ 75 → q ≠ 76 → r5 q = r1.1 q := fun q a b c => by
      rw [h5 q b, zu_other c]
      iterate 6 rw [zu_other a]
    exact zp_ite (fun _ => zp_some ⟨e13, e4⟩) fun _ => zp_some ⟨e13, e4⟩
  refine zp_ite (fun z => zp_mono (f40 0) fun r hr μ hm => zp_mono (h1 μ hm) fun s hs w => ?_) fun z => zp_mono (f40 1) fun r hr μ hm => zp_mono (h1 μ hm) fun s hs w => ?_
  · rw [hr.1] at w
    exact absurd w (by decide)
  · have k := hs (Classical.not_not.mp z)
    have e := fun q a b c => hr.2 q a b c
    exact ⟨k.1.of (by rw [e 4 (by decide) (by decide) (by decide)]) (by rw [e 4 (by decide) (by decide) (by decide)]) rfl, k.2.of (by rw [e 4 (by decide) (by decide) (by decide)]) (e 5 (by decide) (by decide) (by decide)) (e 7 (by decide) (by decide) (by decide)) (e 8 (by decide) (by decide) (by decide))⟩
