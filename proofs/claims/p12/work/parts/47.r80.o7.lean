-- both answer alike
set_option maxRecDepth 2000
def pOut (m c0 : Nat) (L : Nat → Int32) (X : Nat → Nat → Int32) (s : Nat) : Prop := L s = 1 ∧ ∀ s', s' < s → L s' = 1 → ¬ OEQ m c0 (X s') (X s)
theorem out_cover {m c0 : Nat} {L : Nat → Int32} {X : Nat → Nat → Int32} : ∀ (k s : Nat), s < k → L s = 1 → ∃ y, y ≤ s ∧ pOut m c0 L X y ∧ OEQ m c0 (X y) (X s) := by
  intro k
  induction k with
  | zero => intro s hs; exact absurd hs (Nat.not_lt_zero _)
  | succ k ih =>
    intro s hs l
    by_cases c : pOut m c0 L X s
    · exact ⟨s, Nat.le_refl _, c, OEQ.rf⟩
    · have ex : ∃ s', s' < s ∧ L s' = 1 ∧ OEQ m c0 (X s') (X s) := Classical.byContradiction fun n => c ⟨l, fun s' h1 h2 h3 => n ⟨s', h1, h2, h3⟩⟩
      obtain ⟨s', h1, h2, h3⟩ := ex
      obtain ⟨y, y1, y2, y3⟩ := ih s' (by omega) h2
      exact ⟨y, by omega, y2, y3.tr h3⟩
theorem c_fill63 {N : Nat} {σ : zS} : zp (zf_Arrays_fill_c6 N σ 0) (fun r => (∀ q, q ≠ 63 → r q = σ q) ∧ ∀ p, p < 8192 → r 63 p = 0) := by
  have go : ∀ (n i : Nat) (ν : zS), i ≤ 8192 → (∀ q, q ≠ 63 → ν q = σ q) → (∀ l, l < i → ν 63 l = 0) → zp (zb_Arrays_fill_c6_5 N n ν 0 (Int32.ofNat i) 8192) (fun r => (∀ q, q ≠ 63 → r q = σ q) ∧ ∀ p, p < 8192 → r 63 p = 0) := by
    intro n
    induction n with
    | zero => intro _ _ _ _ _; exact zp_none
    | succ n ih =>
      intro i ν hi fr f
      rw [zb_Arrays_fill_c6_5]
      refine zp_ite (fun q => zp_some ⟨fr, fun l hl => f l ?_⟩) fun q => zp_chk fun _ => ?_
      · have := (zo_le (k := 8192) (j := i) (by omega) (by omega)).mp q
        omega
      · rw [zo_n (by omega), zo_1 (by omega)]
        have lt : i < 8192 := by
          by_cases c : i < 8192
          · exact c
          · exact absurd ((zo_le (k := 8192) (j := i) (by omega) (by omega)).mpr (by omega)) q
        refine ih (i + 1) _ (by omega) (fun q hq => by rw [zu_other hq]; exact fr q hq) fun l hl => ?_
        rw [zx_up_same]
        by_cases c : l = i
        · rw [c, zu_eq]
        · rw [zu_ne c]; exact f l (by omega)
  unfold zf_Arrays_fill_c6
  exact go N 0 σ (by omega) (fun _ _ => rfl) fun l hl => absurd hl (Nat.not_lt_zero _)
theorem c_ogather {N m n c0 : Nat} {len : Nat → Nat} {nc : Nat → Nat → Nat} {ρ μ σ : zS} {X : Nat → Nat → Int32} (pc : PC m len nc ρ μ) (rows : ∀ q, 4 ≤ q → q ≤ 16 → σ q = ρ q) (n4 : n ≤ 4000) (h6 : σ 41 6 = Int32.ofNat n) (l01 : ∀ s, s < n → σ 44 s = 0 ∨ σ 44 s = 1) (hst : ∀ s, s < n → ST m len nc ρ (row5 σ s) (X s)) (c6 : c0 ≤ 6) (hz : ∀ s, s < n → ∀ f, c0 ≤ f → f < 6 → X s f = 0) : zp (zf_Outcomes_gather N σ) (fun r => STL (r 61 1) (r 62) (lst (pOut m c0 (σ 44) X) 0 n)) := by
  have m4 := pc.1.1
  have go : ∀ (k S : Nat) (ν : zS), S ≤ n → (∀ q, (q < 36 ∨ (40 ≤ q ∧ q ≤ 57) ∨ 63 < q) → ν q = σ q) → OTB (lst (pOut m c0 (σ 44) X) 0 S).length ν → STL (ν 61 1) (ν 62) (lst (pOut m c0 (σ 44) X) 0 S) → (∀ i y, (lst (pOut m c0 (σ 44) X) 0 S)[i]? = some y → OCB m (row5 σ y 0) (X y) (ν 60 i)) → zp (zb_Outcomes_gather_24 N k ν (Int32.ofNat S)) (fun r => STL (r 61 1) (r 62) (lst (pOut m c0 (σ 44) X) 0 n)) := by
    intro k
    induction k with
    | zero => intro _ _ _ _ _ _ _; exact zp_none
    | succ k ih =>
      intro S ν hS fr ot sl oc
      have k41 : ν 41 = σ 41 := fr 41 (by omega)
      have k44 : ν 44 = σ 44 := fr 44 (by omega)
      have r5 : ∀ s, row5 ν s = row5 σ s := fun s => by unfold row5; rw [fr 42 (by omega)]
      rw [zb_Outcomes_gather_24, k41, h6]
      unfold zb_Outcomes_gather_57
      refine zp_ite (fun q => zp_some ?_) fun q => ?_
      · have : n ≤ S := (zo_le (k := n) (j := S) (by omega) (by omega)).mp q
        rw [show S = n by omega] at sl
        exact sl
      have lt : S < n := by
        by_cases c : S < n
        · exact c
        · exact absurd ((zo_le (k := n) (j := S) (by omega) (by omega)).mpr (by omega)) q
      rw [zo_1 (m := S) (by omega)]
      refine zp_bind (zp_mono (c_isLast (by rw [k41]; exact h6) n4 lt (by rw [k44]; exact l01 S lt)) fun r5' e5 => ?_)
      rw [k44] at e5
      subst e5
      have skip : ¬ pOut m c0 (σ 44) X S → ∀ r : zS, (∀ q, q ≠ 36 → q ≠ 37 → q ≠ 38 → q ≠ 39 → r q = ν q) → zp (zb_Outcomes_gather_24 N k r (Int32.ofNat (S + 1))) (fun r => STL (r 61 1) (r 62) (lst (pOut m c0 (σ 44) X) 0 n)) := fun no r f => by
        refine ih (S + 1) r (by omega) (fun q hq => (f q (by omega) (by omega) (by omega) (by omega)).trans (fr q hq)) ?_ ?_ ?_
        · rw [lst_no no]
          unfold OTB at ot ⊢
          rw [f 59 (by decide) (by decide) (by decide) (by decide), f 60 (by decide) (by decide) (by decide) (by decide), f 63 (by decide) (by decide) (by decide) (by decide)]
          exact ot
        · rw [lst_no no, f 61 (by decide) (by decide) (by decide) (by decide), f 62 (by decide) (by decide) (by decide) (by decide)]
          exact sl
        · rw [lst_no no, f 60 (by decide) (by decide) (by decide) (by decide)]
          exact oc
      refine zp_ite (fun z => skip (fun p => absurd (z.symm.trans p.1) (by decide)) ν fun _ _ _ _ _ => rfl) fun nz => ?_
      have last : σ 44 S = 1 := (l01 S lt).resolve_left nz
      have st : ST m len nc ρ (row5 ν S) (X S) := by rw [r5]; exact hst S lt
      refine zp_bind (zp_mono (c_load pc (by rw [k41]; exact h6) n4 lt (fun q a b => (fr q (by omega)).trans (rows q a b)) st) fun r7 ⟨ld, f7⟩ => ?_)
      have e42 : r7 4 2 = Int32.ofNat m := by rw [ld.1 4 (by decide) (by decide)]; exact pc.1.2.1
      refine zp_bind (zp_mono (c_outcome m4 e42 st ld) fun c hc => ?_)
      rw [r5] at hc
      have ln := lst_len (p := pOut m c0 (σ 44) X) S 0
      have f59 : r7 59 = ν 59 := f7 59 (by decide) (by decide) (by decide) (by decide)
      have f60 : r7 60 = ν 60 := f7 60 (by decide) (by decide) (by decide) (by decide)
      have f63 : r7 63 = ν 63 := f7 63 (by decide) (by decide) (by decide) (by decide)
      have ot7 : OTB (lst (pOut m c0 (σ 44) X) 0 S).length r7 := by
        unfold OTB at ot ⊢
        rw [f59, f60, f63]
        exact ot
      refine zp_bind (zp_mono (c_onote ot7 rfl (by omega) (by rw [f7 61 (by decide) (by decide) (by decide) (by decide), f7 62 (by decide) (by decide) (by decide) (by decide)]; exact sl)) fun r9 h9 => ?_)
      have same : ∀ i y, (lst (pOut m c0 (σ 44) X) 0 S)[i]? = some y → (ν 60 i = c ↔ OEQ m c0 (X y) (X S)) := fun i y e => by
        have mem := (lst_mem (p := pOut m c0 (σ 44) X) S 0 y).mp (List.mem_of_getElem? e)
        exact OCB.eq m4 (hst y (by omega)).1 (hst S lt).1 (hz y (by omega)) (hz S lt) (oc i y e) hc c6
      rcases h9 with ⟨⟨i, hi, e⟩, er⟩ | ⟨no, ot9, sl9, e60, f9⟩
      · rw [er]
        refine skip (fun p => ?_) r7 f7
        have ge := List.getElem?_eq_getElem hi
        have mem := (lst_mem (p := pOut m c0 (σ 44) X) S 0 _).mp (List.mem_of_getElem? ge)
        rw [f60] at e
        exact p.2 _ (by omega) mem.2.2.1 ((same i _ ge).mp e)
      · have yes : pOut m c0 (σ 44) X S := ⟨last, fun s' h1 h2 h3 => by
          obtain ⟨y, y1, y2, y3⟩ := out_cover (m := m) (c0 := c0) (L := σ 44) (X := X) S s' h1 h2
          have mem : y ∈ lst (pOut m c0 (σ 44) X) 0 S := (lst_mem S 0 y).mpr ⟨by omega, by omega, y2⟩
          obtain ⟨i, hi, ge⟩ := List.mem_iff_getElem.mp mem
          have ge' : (lst (pOut m c0 (σ 44) X) 0 S)[i]? = some y := by rw [List.getElem?_eq_getElem hi, ge]
          exact no i hi (by rw [f60]; exact (same i y ge').mpr (y3.tr h3))⟩
        refine ih (S + 1) r9 (by omega) (fun q hq => (f9 q (by omega) (by omega) (by omega) (by omega) (by omega)).trans ((f7 q (by omega) (by omega) (by omega) (by omega)).trans (fr q hq))) ?_ ?_ ?_
        · rw [lst_y yes, List.length_append]
          exact ot9
        · rw [lst_y yes]
          exact sl9
        · rw [lst_y yes, e60, f60]
          intro i y e
          by_cases ci : i < (lst (pOut m c0 (σ 44) X) 0 S).length
          · rw [List.getElem?_append_left ci] at e
            rw [zu_ne (by omega)]
            exact oc i y e
          · rw [List.getElem?_append_right (by omega)] at e
            have z : i - (lst (pOut m c0 (σ 44) X) 0 S).length = 0 := by
              by_cases k : i - (lst (pOut m c0 (σ 44) X) 0 S).length = 0
              · exact k
              · rw [List.getElem?_eq_none (by show 1 ≤ i - (lst (pOut m c0 (σ 44) X) 0 S).length; omega)] at e
                cases e
            rw [z] at e
            have ey : S = y := by
              have : some S = some y := e
              injection this
            rw [show i = (lst (pOut m c0 (σ 44) X) 0 S).length by omega, zu_eq, ← ey]
            exact hc
  unfold zf_Outcomes_gather zf_Numbers_clear_c5 zf_Numbers_clear_c6
  refine zp_bind (zp_some (zp_bind (zp_some (zp_bind (zp_mono c_fill63 fun r3 h3 => ?_)))))
  obtain ⟨f3, z63⟩ := h3
  have k : ∀ q, q ≠ 59 → q ≠ 61 → q ≠ 63 → r3 q = σ q := fun q a b c => by rw [f3 q c, zu_other b, zu_other a]
  refine go N 0 r3 (by omega) (fun q hq => k q (by omega) (by omega) (by omega)) ?_ ?_ ?_
  · refine ⟨Nat.zero_le _, ?_, fun p hp => Or.inl (z63 p hp), fun s hs => absurd hs (Nat.not_lt_zero _), fun p q hp _ np => absurd (z63 p hp) np⟩
    rw [f3 59 (by decide), zu_other (by decide), zx_up_same, zu_eq]
    rfl
  · rw [f3 61 (by decide), zx_up_same, zu_eq]
    exact STL.nil
  · intro i y e
    rw [lst, List.getElem?_nil] at e
    cases e
