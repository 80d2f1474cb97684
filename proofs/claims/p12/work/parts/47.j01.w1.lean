-- both answer alike
set_option maxRecDepth 2000
theorem p_M_lead1 {N : Nat} {σ : zS} {x1 : Int32} {lo : List Nat} (ht : 0 ≤ σ 82 39 ∧ σ 82 39 < 4) (hc : Ch (σ 102) lo (σ 82 37)) : zp (zf_M_lead N σ x1) (fun r => FL σ r x1 lo) := by
  unfold zf_M_lead
  have t0 : 0 ≤ (σ 82 39).toInt := Int32.le_iff_toInt_le.mp ht.1
  have t1 : (σ 82 39).toInt < 4 := Int32.lt_iff_toInt_lt.mp ht.2
  have tn := z_nat ht.1
  have k24 : (24 : Int32).toInt = 24 := rfl
  have e24 := z_ti_mul (a := 24) (b := σ 82 39) (by rw [k24]; omega) (by rw [k24]; omega)
  rw [k24] at e24
  have eb : (24 * σ 82 39).toInt = (tb σ : Int) := by unfold tb; omega
  have H : ∀ (rest done : List Nat), lo = done ++ rest → ∀ (n : Nat) (ρ : zS), Ch (σ 102) rest (ρ 82 37) → (∀ q, q ≠ 82 → q ≠ 94 → q ≠ 95 → ρ q = σ q) → (∀ i, i ≠ 37 → ρ 82 i = σ 82 i) → (∀ i, ρ 94 i = if tb σ ≤ i ∧ 2 * (i - tb σ) ∈ done then x1 else σ 94 i) → (∀ i, ρ 95 i = if tb σ ≤ i ∧ 2 * (i - tb σ) + 1 ∈ done then x1 else σ 95 i) → zp (zb_M_lead_8 N n ρ x1 (24 * σ 82 39)) (fun r => FL σ r x1 lo) := by
    intro rest
    induction rest with
    | nil =>
      intro done hl n ρ hr hf hg h4 h5
      rw [List.append_nil] at hl
      subst hl
      have hr : ρ 82 37 = -1 := hr
      cases n with
      | zero => exact zp_none
      | succ n =>
        rw [zb_M_lead_8]
        refine zp_ite (fun _ => zp_some ⟨hf, hg, hr, h4, h5⟩) fun c => absurd hr c
    | cons k rest ih =>
      intro done hl n ρ hr hf hg h4 h5
      obtain ⟨⟨hk, ek⟩, hr2⟩ := hr
      cases n with
      | zero => exact zp_none
      | succ n =>
        have hk0 : 0 ≤ ρ 82 37 := Int32.le_iff_toInt_le.mpr (by rw [ek]; show (0 : Int) ≤ _; omega)
        have hk48 : ρ 82 37 < 48 := Int32.lt_iff_toInt_lt.mpr (by rw [ek]; show _ < (48 : Int); omega)
        have hne : ¬ ρ 82 37 = -1 := fun q => by rw [q, show (-1 : Int32).toInt = -1 from rfl] at ek; omega
        have kn : (ρ 82 37).toNatClampNeg = k := by have := z_nat hk0; omega
        obtain ⟨hrem, hdiv⟩ := z_half ek hk
        have esum := z_ti_add (a := 24 * σ 82 39) (b := ρ 82 37 / 2) (by omega) (by omega)
        have p0 : 0 ≤ 24 * σ 82 39 + ρ 82 37 / 2 := Int32.le_iff_toInt_le.mpr (by rw [esum]; show (0 : Int) ≤ _; omega)
        have p1 : 24 * σ 82 39 + ρ 82 37 / 2 < 96 := Int32.lt_iff_toInt_lt.mpr (by rw [esum, eb, hdiv]; show _ < (96 : Int); unfold tb; omega)
        have pn : (24 * σ 82 39 + ρ 82 37 / 2).toNatClampNeg = tb σ + k / 2 := by have := z_nat p0; omega
        have e102 : ρ 102 = σ 102 := hf 102 (by decide) (by decide) (by decide)
        rw [zb_M_lead_8]
        refine zp_ite (fun c => absurd c hne) fun _ => ?_
        refine zp_chk fun _ => ?_
        have mem_snoc : ∀ j, j ∈ done ++ [k] ↔ (j ∈ done ∨ j = k) := fun j => by simp
        refine zp_ite (fun c => ?_) fun c => ?_
        · have odd : k % 2 = 1 := by have : ¬ k % 2 = 0 := fun q => c ((z_eq0 hrem).mpr q); omega
          refine zp_chk fun _ => ?_
          refine ih (done ++ [k]) (by rw [hl]; simp) n _ ?_ ?_ ?_ ?_ ?_
          · rw [zu_other (by decide), zx_up_same, zu_eq, kn, e102]; exact hr2
          · intro q a b d; rw [zu_other d, zu_other a]; exact hf q a b d
          · intro i hi; rw [zu_other (by decide), zx_up_same, zu_ne hi]; exact hg i hi
          · intro i
            rw [zu_other (by decide), zu_other (by decide), h4 i]
            have : (tb σ ≤ i ∧ 2 * (i - tb σ) ∈ done ++ [k]) ↔ (tb σ ≤ i ∧ 2 * (i - tb σ) ∈ done) := by
              rw [mem_snoc]
              constructor
              · rintro ⟨a, b | b⟩
                · exact ⟨a, b⟩
                · omega
              · rintro ⟨a, b⟩; exact ⟨a, Or.inl b⟩
            simp only [this]
          · intro i
            rw [zx_up_same, pn, zu_other (by decide)]
            by_cases q : i = tb σ + k / 2
            · rw [q, zu_eq, if_pos ⟨by omega, by rw [mem_snoc]; right; omega⟩]
            · rw [zu_ne q, h5 i]
              have : (tb σ ≤ i ∧ 2 * (i - tb σ) + 1 ∈ done ++ [k]) ↔ (tb σ ≤ i ∧ 2 * (i - tb σ) + 1 ∈ done) := by
                rw [mem_snoc]
                constructor
                · rintro ⟨a, b | b⟩
                  · exact ⟨a, b⟩
                  · omega
                · rintro ⟨a, b⟩; exact ⟨a, Or.inl b⟩
              simp only [this]
        · have even : k % 2 = 0 := (z_eq0 hrem).mp (Decidable.not_not.mp c)
          refine zp_chk fun _ => ?_
          refine ih (done ++ [k]) (by rw [hl]; simp) n _ ?_ ?_ ?_ ?_ ?_
          · rw [zu_other (by decide), zx_up_same, zu_eq, kn, e102]; exact hr2
          · intro q a b d; rw [zu_other b, zu_other a]; exact hf q a b d
          · intro i hi; rw [zu_other (by decide), zx_up_same, zu_ne hi]; exact hg i hi
          · intro i
            rw [zx_up_same, pn, zu_other (by decide)]
            by_cases q : i = tb σ + k / 2
            · rw [q, zu_eq, if_pos ⟨by omega, by rw [mem_snoc]; right; omega⟩]
            · rw [zu_ne q, h4 i]
              have : (tb σ ≤ i ∧ 2 * (i - tb σ) ∈ done ++ [k]) ↔ (tb σ ≤ i ∧ 2 * (i - tb σ) ∈ done) := by
                rw [mem_snoc]
                constructor
                · rintro ⟨a, b | b⟩
                  · exact ⟨a, b⟩
                  · omega
                · rintro ⟨a, b⟩; exact ⟨a, Or.inl b⟩
              simp only [this]
          · intro i
            rw [zu_other (by decide), zu_other (by decide), h5 i]
            have : (tb σ ≤ i ∧ 2 * (i - tb σ) + 1 ∈ done ++ [k]) ↔ (tb σ ≤ i ∧ 2 * (i - tb σ) + 1 ∈ done) := by
              rw [mem_snoc]
              constructor
              · rintro ⟨a, b | b⟩
                · exact ⟨a, b⟩
                · omega
              · rintro ⟨a, b⟩; exact ⟨a, Or.inl b⟩
            simp only [this]
  refine H lo [] rfl N σ hc (fun _ _ _ _ => rfl) (fun _ _ => rfl) ?_ ?_
  · intro i; rw [if_neg (fun q => List.not_mem_nil q.2)]
  · intro i; rw [if_neg (fun q => List.not_mem_nil q.2)]
theorem p_M_join1 {N : Nat} {σ : zS} {x1 : Int32} {l lo : List Nat} (hl : Ch (σ 102) l x1) (hc : Ch (σ 102) lo (σ 82 37)) (hd : ∀ k, k ∈ l → k ∉ lo) : zp (zf_M_joinOpen N σ x1) (fun r => FJ σ r l lo x1) := by
  unfold zf_M_joinOpen
  refine zp_ite (fun c => ?_) fun c => ?_
  · have H : ∀ (rest done : List Nat), l = done ++ rest → ∀ (n : Nat) (v : Int32), rest ≠ [] → Ch (σ 102) rest v → zp (zb_M_joinOpen_8 N n σ x1 v) (fun r => FJ σ r l lo x1) := by
      intro rest
      induction rest with
      | nil => intro done _ n v hne _; exact absurd rfl hne
      | cons k rest ih =>
        intro done e n v _ hv
        obtain ⟨⟨hk, ek⟩, hv2⟩ := hv
        have hk0 : 0 ≤ v := Int32.le_iff_toInt_le.mpr (by rw [ek]; show (0 : Int) ≤ _; omega)
        have hk48 : v < 48 := Int32.lt_iff_toInt_lt.mpr (by rw [ek]; show _ < (48 : Int); omega)
        have kn : v.toNatClampNeg = k := by have := z_nat hk0; omega
        cases n with
        | zero => exact zp_none
        | succ n =>
          rw [zb_M_joinOpen_8]
          refine zp_chk fun _ => ?_
          refine zp_ite (fun q => ?_) fun q => ?_
          · refine zp_chk fun _ => ?_
            rw [kn] at q ⊢
            have er : rest = [] := by
              cases rest with
              | nil => rfl
              | cons j rest =>
                have := hv2.1.2
                rw [q, show (-1 : Int32).toInt = -1 from rfl] at this
                omega
            subst er
            have nd := hl.nodup
            rw [e] at nd hd
            have hl' := hl
            rw [e] at hl'
            have nk : k ∉ done := fun w => by
              have := (List.nodup_append.mp nd).2.2 k w k List.mem_cons_self
              exact this rfl
            refine zp_some ⟨fun q a b => by rw [zu_other a, zu_other b], fun i hi => by rw [zx_up_same, zu_ne hi, zu_other (by decide)], ?_, fun j hj => ?_⟩
            · rw [zu_other (by decide), zx_up_same, zx_up_same, zu_eq, e, List.append_assoc]
              exact Ch.append hl' hc (hd k (by simp)) nk
            · rw [zu_other (by decide), zx_up_same]
              exact zu_ne (fun w => hj (by rw [e, w]; simp))
          · refine zp_chk fun _ => ?_
            rw [kn] at q ⊢
            refine ih (done ++ [k]) (by rw [e]; simp) n _ ?_ hv2
            intro er
            rw [er] at hv2
            exact q hv2
    refine H l [] rfl N x1 ?_ hl
    intro e; rw [e] at hl; exact c hl
  · have e : x1 = -1 := Decidable.not_not.mp c
    have el : l = [] := Ch.det hl (show Ch (σ 102) [] x1 from e)
    subst el
    exact zp_some ⟨fun _ _ _ => rfl, fun _ _ => rfl, hc, fun _ _ => rfl⟩
