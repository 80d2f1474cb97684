-- both answer alike
set_option maxRecDepth 2000
theorem c_gatherO {N m n : Nat} {len : Nat → Nat} {nc : Nat → Nat → Nat} {ρ μ σ : zS} (pc : PC m len nc ρ μ) (rows : ∀ q, 4 ≤ q → q ≤ 16 → σ q = ρ q) (n4 : n ≤ 4000) (h6 : σ 41 6 = Int32.ofNat n) (pj : PJ σ m len) (fd : FLD σ) (l01 : ∀ s, s < n → σ 44 s = 0 ∨ σ 44 s = 1) : zp (zf_Findings_gather N σ) (fun r => ∀ X : Nat → Nat → Int32, (∀ s, s < n → ST m len nc ρ (row5 σ s) (X s)) → ∀ c0, c0 ≤ 6 → (∀ s, s < n → ∀ f, c0 ≤ f → f < 6 → X s f = 0) → FNG m n ρ (σ 44) X r ∧ STL (r 61 1) (r 62) (lst (pOut m c0 (σ 44) X) 0 n)) := by
  have main : ∀ X : Nat → Nat → Int32, (∀ s, s < n → ST m len nc ρ (row5 σ s) (X s)) → ∀ c0, c0 ≤ 6 → (∀ s, s < n → ∀ f, c0 ≤ f → f < 6 → X s f = 0) → zp (zf_Findings_gather N σ) (fun r => FNG m n ρ (σ 44) X r ∧ STL (r 61 1) (r 62) (lst (pOut m c0 (σ 44) X) 0 n)) := fun X hst c0 c6 hz => by
    unfold zf_Findings_gather zf_Numbers_clear zf_Numbers_clear_c1 zf_Numbers_clear_c2
    refine zp_bind (zp_some (zp_bind (zp_some (zp_bind (zp_some (zp_bind (zp_mono c_fill57 fun r4 h4 => ?_)))))))
    obtain ⟨f4, z57⟩ := h4
    have k : ∀ q, q ≠ 47 → q ≠ 49 → q ≠ 51 → q ≠ 57 → r4 q = σ q := fun q a b c d => by rw [f4 q d, zu_other c, zu_other b, zu_other a]
    have fr : ∀ q, KEP q → r4 q = σ q := fun q hq => k q (by unfold KEP at hq; omega) (by unfold KEP at hq; omega) (by unfold KEP at hq; omega) (by unfold KEP at hq; omega)
    have z : ∀ c, (c = 47 ∨ c = 49 ∨ c = 51) → r4 c 1 = 0 := fun c hc => by
      rw [f4 c (by omega)]
      rcases hc with e | e | e
      · rw [e, zu_other (by decide), zu_other (by decide), zx_up_same, zu_eq]
      · rw [e, zu_other (by decide), zx_up_same, zu_eq]
      · rw [e, zx_up_same, zu_eq]
    refine c_gatherL pc rows n4 h6 pj fd l01 hst (fun ν fv g => ?_) N 0 r4 (by omega) fr ⟨?_, ?_, ?_, LEA.zero z57⟩
    · refine zp_bind (zp_mono (c_listRaces pc.1.1 n4 g.2.2.2) fun r6 h6' => ?_)
      obtain ⟨a, b, f6⟩ := h6'
      have q6 : ∀ q, KEP q → q < 53 ∨ 56 < q → r6 q = σ q := fun q x y => (f6 q (by omega) (by omega) (by omega) (by omega)).trans (fv q x)
      have r5 : row5 r6 = row5 σ := by
        funext j
        unfold row5
        rw [q6 42 (by unfold KEP; omega) (by omega)]
      have k44 : r6 44 = σ 44 := q6 44 (by unfold KEP; omega) (by omega)
      refine zp_bind (zp_mono (zp_and (xo_f_Outcomes_gather (σ0 := r6) (fun _ _ => rfl)) (c_ogather (c0 := c0) (X := X) pc (fun q x y => (q6 q (by unfold KEP; omega) (by omega)).trans (rows q x y)) n4 (by rw [q6 41 (by unfold KEP; omega) (by omega)]; exact h6) (by rw [k44]; exact l01) (by rw [r5]; exact hst) c6 hz)) fun r7 h7' => zp_some ?_)
      obtain ⟨h7, og⟩ := h7'
      rw [k44] at og
      have o : ∀ q, 47 ≤ q → q ≤ 57 → r7 q = r6 q := fun q x y => h7 q (by omega)
      have e57 : r7 57 = ν 57 := (o 57 (by decide) (by decide)).trans (f6 57 (by decide) (by decide) (by decide) (by decide))
      have lo : ∀ q, 47 ≤ q → q ≤ 52 → r7 q = ν q := fun q x y => (o q x (by omega)).trans (f6 q (by omega) (by omega) (by omega) (by omega))
      refine ⟨⟨?_, ?_, ?_⟩, og⟩
      · unfold GTH at *
        rw [lo 47 (by decide) (by decide), lo 48 (by decide) (by decide), lo 49 (by decide) (by decide), lo 50 (by decide) (by decide), lo 51 (by decide) (by decide), lo 52 (by decide) (by decide), e57]
        exact g
      · rw [o 53 (by decide) (by decide), o 54 (by decide) (by decide), e57]
        exact a
      · rw [o 55 (by decide) (by decide), o 56 (by decide) (by decide), e57]
        exact b
    · rw [z 47 (by decide)]; exact STL.nil
    · rw [z 49 (by decide)]; exact STL.nil
    · rw [z 51 (by decide)]; exact STL.nil
  exact fun r e X hst c0 c6 hz => main X hst c0 c6 hz r e
