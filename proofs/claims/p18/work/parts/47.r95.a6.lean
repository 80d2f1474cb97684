-- both answer alike
set_option maxRecDepth 2000
theorem c_outcomeG {N m : Nat} {σ : zS} {w x : Nat → Int32} (m4 : m ≤ 4) (e42 : σ 4 2 = Int32.ofNat m) (fw : FWB (w 0) x) (h36 : ∀ t, t < m → σ 36 t = x (15 + 6 * t)) (h39 : σ 39 0 = w 0) : zp (zf_Machine_outcome N σ) (fun r => OCB m (w 0) x r) := by
  have ow : (∀ t, t < m → GON (σ 36 t)) ↔ ∀ t, t < m → GON (x (15 + 6 * t)) := by
    constructor
    · intro h t ht; rw [← h36 t ht]; exact h t ht
    · intro h t ht; rw [h36 t ht]; exact h t ht
  have tail : ∀ s0 : Int32, (s0 = 0 ∨ s0 = 1) → (s0 = 1 ↔ ¬ ∀ t, t < m → GON (x (15 + 6 * t))) → zp (zb_Machine_outcome_12 N σ s0) (fun r => OCB m (w 0) x r) := fun s0 h01 hs => by
    unfold zb_Machine_outcome_12
    refine zp_bind (zp_mono (c_failedB m4 e42) fun r3 h3 => zp_some ?_)
    rw [h39]
    have key : ∀ i, i < 32 → gb (((w 0) ||| (zJ_shl r3 18)) ||| (zJ_shl s0 22)) i = ((gb (w 0) i || (decide (18 ≤ i) && gb r3 (i - 18))) || (decide (22 ≤ i) && gb s0 (i - 22))) := fun i hi => by
      rw [gb_or, gb_or, show (18 : Int32) = Int32.ofNat 18 from rfl, show (22 : Int32) = Int32.ofNat 22 from rfl, gb_shl (by omega) hi, gb_shl (by omega) hi]
    have s00 : ∀ i, 1 ≤ i → i < 32 → gb s0 i = false := fun i a b => by
      rcases h01 with e | e
      · rw [e, gb_zero]
      · rw [e, show gb 1 i = decide (i = 0) from gb_one ⟨i, b⟩, decide_eq_false (by omega)]
    refine ⟨fun i hi => ?_, fun t ht => ?_, ?_, fun i hi => ?_⟩
    · rw [key i (by omega), decide_eq_false (show ¬ 18 ≤ i by omega), decide_eq_false (show ¬ 22 ≤ i by omega)]
      simp
    · rw [key _ (by omega), fw.2.2 (18 + t) (by omega), decide_eq_true (show 18 ≤ 18 + t by omega), decide_eq_false (show ¬ 22 ≤ 18 + t by omega), show 18 + t - 18 = t by omega, Bool.false_or, Bool.true_and, Bool.false_and, Bool.or_false, h3.1 t ht]
      constructor
      · intro k; exact ⟨k.1, by rw [← h36 t k.1]; exact k.2⟩
      · intro k; exact ⟨k.1, by rw [h36 t k.1]; exact k.2⟩
    · rw [key _ (by omega), fw.2.2 22 (by omega), decide_eq_true (show 18 ≤ 22 by omega), decide_eq_true (show 22 ≤ 22 by omega), show 22 - 18 = 4 from rfl, show 22 - 22 = 0 from rfl, h3.2 4 (by omega), Bool.false_or, Bool.true_and, Bool.false_or, Bool.true_and, ← hs]
      rcases h01 with e | e
      · rw [e, gb_zero]; decide
      · rw [e, show gb 1 0 = true from by decide +kernel]; decide
    · by_cases c : i < 32
      · rw [key i c, fw.2.2 i (by omega), h3.2 (i - 18) (by omega), s00 (i - 22) (by omega) (by omega)]
        simp
      · exact gb_ge (by omega)
  unfold zf_Machine_outcome
  refine zp_bind (zp_mono (c_isOver m4 e42) fun r1 h1 => ?_)
  rcases h1 with ⟨e, no⟩ | ⟨e, yes⟩
  · rw [ow] at no
    exact zp_ite (fun _ => tail 1 (Or.inr rfl) ⟨fun _ => no, fun _ => rfl⟩) fun q => absurd e q
  · rw [ow] at yes
    exact zp_ite (fun q => absurd (e.symm.trans q) (by decide)) fun _ => tail 0 (Or.inl rfl) ⟨fun k => absurd k (by decide), fun k => absurd yes k⟩
theorem STF.fwb {o m : Nat} {len : Nat → Nat} {nc : Nat → Nat → Nat} {ρ : zS} {w x : Nat → Int32} (h : STF o m len nc ρ w x) : FWB (w 0) x := by
  obtain ⟨f, f1, s, _⟩ := h
  have k := s.1
  rw [wm_0] at k
  exact k
def KO6 (q : Nat) : Prop := q < 36 ∨ (40 ≤ q ∧ q ≤ 69) ∨ 74 < q
theorem c_ogatherF {N o m n c0 : Nat} {len : Nat → Nat} {nc : Nat → Nat → Nat} {ρ μ σ : zS} {X : Nat → Nat → Int32} (pc : PC m len nc ρ μ) (rows : ∀ q, 4 ≤ q → q ≤ 16 → σ q = ρ q) (n4 : n ≤ 4000) (h6 : σ 64 6 = Int32.ofNat n) (l01 : ∀ s, s < n → σ 67 s = 0 ∨ σ 67 s = 1) (hst : ∀ s, s < n → STF o m len nc ρ (row5W σ s) (X s)) (c6 : c0 ≤ 6) (hz : ∀ s, s < n → ∀ f, c0 ≤ f → f < 6 → X s f = 0) : zp (zf_Outcomes_gather_c1 N σ) (fun r => (OTBW (lst (pOut m c0 (σ 67) X) 0 n).length r ∧ ∀ i y, (lst (pOut m c0 (σ 67) X) 0 n)[i]? = some y → OCB m (row5W σ y 0) (X y) (r 71 i)) ∧ ∀ q, KO6 q → r q = σ q) := by
  have m4 := pc.1.1
  have go : ∀ (k S : Nat) (ν : zS), S ≤ n → (∀ q, KO6 q → ν q = σ q) → OTBW (lst (pOut m c0 (σ 67) X) 0 S).length ν → STL (ν 72 1) (ν 73) (lst (pOut m c0 (σ 67) X) 0 S) → (∀ i y, (lst (pOut m c0 (σ 67) X) 0 S)[i]? = some y → OCB m (row5W σ y 0) (X y) (ν 71 i)) → zp (zb_Outcomes_gather_c1_24 N k ν (Int32.ofNat S)) (fun r => (OTBW (lst (pOut m c0 (σ 67) X) 0 n).length r ∧ ∀ i y, (lst (pOut m c0 (σ 67) X) 0 n)[i]? = some y → OCB m (row5W σ y 0) (X y) (r 71 i)) ∧ ∀ q, KO6 q → r q = σ q) := by
    intro k
    induction k with
    | zero => intro _ _ _ _ _ _ _; exact zp_none
    | succ k ih =>
      intro S ν hS fr ot sl oc
      have k41 : ν 64 = σ 64 := fr 64 (by unfold KO6; omega)
      have k44 : ν 67 = σ 67 := fr 67 (by unfold KO6; omega)
      have r5 : ∀ s, row5W ν s = row5W σ s := fun s => by unfold row5W; rw [fr 65 (by unfold KO6; omega)]
      rw [zb_Outcomes_gather_c1_24, k41, h6]
      unfold zb_Outcomes_gather_c1_57
      refine zp_ite (fun q => zp_some ?_) fun q => ?_
      · have : n ≤ S := (zo_le (k := n) (j := S) (by omega) (by omega)).mp q
        rw [show S = n by omega] at ot oc
        exact ⟨⟨ot, oc⟩, fr⟩
      have lt : S < n := by
        by_cases c : S < n
        · exact c
        · exact absurd ((zo_le (k := n) (j := S) (by omega) (by omega)).mpr (by omega)) q
      rw [zo_1 (m := S) (by omega)]
      refine zp_bind (zp_mono (c_isLastW (by rw [k41]; exact h6) n4 lt (by rw [k44]; exact l01 S lt)) fun r5' e5 => ?_)
      rw [k44] at e5
      subst e5
      have skip : ¬ pOut m c0 (σ 67) X S → ∀ r : zS, (∀ q, q ≠ 36 → q ≠ 37 → q ≠ 38 → q ≠ 39 → r q = ν q) → zp (zb_Outcomes_gather_c1_24 N k r (Int32.ofNat (S + 1))) (fun r => (OTBW (lst (pOut m c0 (σ 67) X) 0 n).length r ∧ ∀ i y, (lst (pOut m c0 (σ 67) X) 0 n)[i]? = some y → OCB m (row5W σ y 0) (X y) (r 71 i)) ∧ ∀ q, KO6 q → r q = σ q) := fun no r f => by
        refine ih (S + 1) r (by omega) (fun q hq => (f q (by unfold KO6 at hq; omega) (by unfold KO6 at hq; omega) (by unfold KO6 at hq; omega) (by unfold KO6 at hq; omega)).trans (fr q hq)) ?_ ?_ ?_
        · rw [lst_no no]
          unfold OTBW at ot ⊢
          rw [f 70 (by decide) (by decide) (by decide) (by decide), f 71 (by decide) (by decide) (by decide) (by decide), f 74 (by decide) (by decide) (by decide) (by decide)]
          exact ot
        · rw [lst_no no, f 72 (by decide) (by decide) (by decide) (by decide), f 73 (by decide) (by decide) (by decide) (by decide)]
          exact sl
        · rw [lst_no no, f 71 (by decide) (by decide) (by decide) (by decide)]
          exact oc
      refine zp_ite (fun z => skip (fun p => absurd (z.symm.trans p.1) (by decide)) ν fun _ _ _ _ _ => rfl) fun nz => ?_
      have last : σ 67 S = 1 := (l01 S lt).resolve_left nz
      obtain ⟨f, f1, s0, _⟩ := hst S lt
      have fwb := (hst S lt).fwb
      have st : ST m len (nmk nc f) ρ (wm (row5W ν S)) (X S) := by rw [r5]; exact s0
      refine zp_bind (zp_mono (c_loadW pc.nmk (by rw [k41]; exact h6) n4 lt (fun q a b => (fr q (by unfold KO6; omega)).trans (rows q a b)) st) fun r7 ⟨ld, f7⟩ => ?_)
      have e42 : r7 4 2 = Int32.ofNat m := by rw [ld.1 4 (by decide) (by decide)]; exact pc.1.2.1
      refine zp_bind (zp_mono (c_outcomeG (w := row5W ν S) m4 e42 (by rw [r5]; exact fwb) (fun t ht => (ld.2.2.1 t ht).1) (ld.2.1 0 (by omega))) fun c hc => ?_)
      rw [r5] at hc
      have ln := lst_len (p := pOut m c0 (σ 67) X) S 0
      have f59 : r7 70 = ν 70 := f7 70 (by decide) (by decide) (by decide) (by decide)
      have f60 : r7 71 = ν 71 := f7 71 (by decide) (by decide) (by decide) (by decide)
      have f63 : r7 74 = ν 74 := f7 74 (by decide) (by decide) (by decide) (by decide)
      have ot7 : OTBW (lst (pOut m c0 (σ 67) X) 0 S).length r7 := by
        unfold OTBW at ot ⊢
        rw [f59, f60, f63]
        exact ot
      refine zp_bind (zp_mono (c_onoteW ot7 rfl (by omega) (by rw [f7 72 (by decide) (by decide) (by decide) (by decide), f7 73 (by decide) (by decide) (by decide) (by decide)]; exact sl)) fun r9 h9 => ?_)
      have same : ∀ i y, (lst (pOut m c0 (σ 67) X) 0 S)[i]? = some y → (ν 71 i = c ↔ OEQ m c0 (X y) (X S)) := fun i y e => by
        have mem := (lst_mem (p := pOut m c0 (σ 67) X) S 0 y).mp (List.mem_of_getElem? e)
        exact OCB.eq m4 (hst y (by omega)).fwb (hst S lt).fwb (hz y (by omega)) (hz S lt) (oc i y e) hc c6
      rcases h9 with ⟨⟨i, hi, e⟩, er⟩ | ⟨no, ot9, sl9, e60, f9⟩
      · rw [er]
        refine skip (fun p => ?_) r7 f7
        have ge := List.getElem?_eq_getElem hi
        have mem := (lst_mem (p := pOut m c0 (σ 67) X) S 0 _).mp (List.mem_of_getElem? ge)
        rw [f60] at e
        exact p.2 _ (by omega) mem.2.2.1 ((same i _ ge).mp e)
      · have yes : pOut m c0 (σ 67) X S := ⟨last, fun s' h1 h2 h3 => by
          obtain ⟨y, y1, y2, y3⟩ := out_cover (m := m) (c0 := c0) (L := σ 67) (X := X) S s' h1 h2
          have mem : y ∈ lst (pOut m c0 (σ 67) X) 0 S := (lst_mem S 0 y).mpr ⟨by omega, by omega, y2⟩
          obtain ⟨i, hi, ge⟩ := List.mem_iff_getElem.mp mem
          have ge' : (lst (pOut m c0 (σ 67) X) 0 S)[i]? = some y := by rw [List.getElem?_eq_getElem hi, ge]
          exact no i hi (by rw [f60]; exact (same i y ge').mpr (y3.tr h3))⟩
        refine ih (S + 1) r9 (by omega) (fun q hq => (f9 q (by unfold KO6 at hq; omega) (by unfold KO6 at hq; omega) (by unfold KO6 at hq; omega) (by unfold KO6 at hq; omega) (by unfold KO6 at hq; omega)).trans ((f7 q (by unfold KO6 at hq; omega) (by unfold KO6 at hq; omega) (by unfold KO6 at hq; omega) (by unfold KO6 at hq; omega)).trans (fr q hq))) ?_ ?_ ?_
        · rw [lst_y yes, List.length_append]
          exact ot9
        · rw [lst_y yes]
          exact sl9
        · rw [lst_y yes, e60, f60]
          intro i y e
          by_cases ci : i < (lst (pOut m c0 (σ 67) X) 0 S).length
          · rw [List.getElem?_append_left ci] at e
            rw [zu_ne (by omega)]
            exact oc i y e
          · rw [List.getElem?_append_right (by omega)] at e
            have z : i - (lst (pOut m c0 (σ 67) X) 0 S).length = 0 := by
              by_cases k : i - (lst (pOut m c0 (σ 67) X) 0 S).length = 0
              · exact k
              · rw [List.getElem?_eq_none (by show 1 ≤ i - (lst (pOut m c0 (σ 67) X) 0 S).length; omega)] at e
                cases e
            rw [z] at e
            have ey : S = y := by
              have : some S = some y := e
              injection this
            rw [show i = (lst (pOut m c0 (σ 67) X) 0 S).length by omega, zu_eq, ← ey]
            exact hc
  unfold zf_Outcomes_gather_c1 zf_Numbers_clear_c7 zf_Numbers_clear_c8
  refine zp_bind (zp_some (zp_bind (zp_some (zp_bind (zp_mono c_fill63W fun r3 h3 => ?_)))))
  obtain ⟨f3, z63⟩ := h3
  have k : ∀ q, q ≠ 70 → q ≠ 72 → q ≠ 74 → r3 q = σ q := fun q a b c => by rw [f3 q c, zu_other b, zu_other a]
  refine go N 0 r3 (by omega) (fun q hq => k q (by unfold KO6 at hq; omega) (by unfold KO6 at hq; omega) (by unfold KO6 at hq; omega)) ?_ ?_ ?_
  · refine ⟨Nat.zero_le _, ?_, fun p hp => Or.inl (z63 p hp), fun s hs => absurd hs (Nat.not_lt_zero _), fun p q hp _ np => absurd (z63 p hp) np⟩
    rw [f3 70 (by decide), zu_other (by decide), zx_up_same, zu_eq]
    rfl
  · rw [f3 72 (by decide), zx_up_same, zu_eq]
    exact STL.nil
  · intro i y e
    rw [lst, List.getElem?_nil] at e
    cases e
theorem c_slotOfW {N n : Nat} {c : Int32} {σ : zS} (ot : OTBW n σ) : zp (zf_Outcomes_slotOf_c1 N σ c) (fun r => PRO6W n c σ r) := by
  unfold zf_Outcomes_slotOf_c1
  have e0 : ((c * (-1640531535)) ^^^ (zJ_ushr (c * (-1640531535)) 15)) &&& 8191 = Int32.ofNat (hco c) := (zo_mk (z_and _ 8191 (by decide)).1).symm
  have l := hco_lt c
  have h := c_probeOW (N := N) (c := c) ot N 0 (by omega) fun j' h' => absurd h' (Nat.not_lt_zero _)
  rw [show (hco c + 0) % 8192 = hco c by omega] at h
  rw [e0]
  exact h
theorem c_sameF {N nT nM : Nat} {σ : zS} (ot : OTBW nT σ) (e59 : σ 59 1 = Int32.ofNat nM) (m4 : nM ≤ 4000) : zp (zf_Outcomes_isSameAs N σ) (fun r => ANQ (nT = nM ∧ ∀ i, i < nM → ∃ s, s < nT ∧ σ 71 s = σ 60 i) r) := by
  have t4 := ot.1
  have e70 := ot.2.1
  have go : ∀ (n i : Nat), i ≤ nM → nT = nM → (∀ j, j < i → ∃ s, s < nT ∧ σ 71 s = σ 60 j) → zp (zb_Outcomes_isSameAs_21 N n σ (Int32.ofNat i)) (fun r => ANQ (nT = nM ∧ ∀ i, i < nM → ∃ s, s < nT ∧ σ 71 s = σ 60 i) r) := by
    intro n
    induction n with
    | zero => intro _ _ _ _; exact zp_none
    | succ n ih =>
      intro i hi en h
      rw [zb_Outcomes_isSameAs_21, e59]
      refine zp_ite (fun q => zp_some (Or.inr ⟨rfl, en, fun j hj => h j ?_⟩)) fun q => ?_
      · have := (zo_le (k := nM) (j := i) (by omega) (by omega)).mp q
        omega
      · have lt : i < nM := by
          by_cases c : i < nM
          · exact c
          · exact absurd ((zo_le (k := nM) (j := i) (by omega) (by omega)).mpr (by omega)) q
        refine zp_bind (zp_mono (g_59 e59 m4 lt) fun r3 e3 => zp_bind (zp_mono (c_slotOfW ot) fun r4 h4 => ?_))
        obtain ⟨p, p8, ep, hp⟩ := h4
        subst ep
        rw [zo_n (m := p) (by omega), zo_1 (m := i) (by omega)]
        rcases hp with ⟨z, no, _⟩ | ⟨nz, s, hs, es⟩
        · refine zp_chk fun _ => zp_ite (fun q => absurd z q) fun _ => zp_some (Or.inl ⟨rfl, fun k => ?_⟩)
          obtain ⟨s, hs, es⟩ := k.2 i lt
          exact no s hs (es.trans e3.symm)
        · refine zp_chk fun _ => zp_ite (fun _ => ih (i + 1) (by omega) en fun j hj => ?_) fun q => absurd nz q
          by_cases c : j = i
          · rw [c]; exact ⟨s, hs, es.trans e3⟩
          · exact h j (by omega)
  unfold zf_Outcomes_isSameAs
  rw [e70, e59]
  refine zp_ite (fun e => go N 0 (Nat.zero_le _) (zo_inj (by omega) (by omega) e) fun j hj => absurd hj (Nat.not_lt_zero _)) fun ne => zp_some (Or.inl ⟨rfl, fun k => ne (by rw [k.1])⟩)
theorem m_cmpF {N m c0 n : Nat} {v4 s0 : Int32} {L : Nat → Int32} {μ : zS} {Lm : List Nat} (m4 : m ≤ 4) (c6 : c0 ≤ 6) (e15 : μ 82 15 = Int32.ofNat c0) (e17 : μ 82 17 = Int32.ofNat m) (n4 : n ≤ 4000) (sl : STL v4 (μ 117) (OLS m c0 L (XT μ) n)) (sm : STL (μ 82 60) (μ 115) Lm) (lm : Lm.length ≤ 4000 ∧ ∀ y, y ∈ Lm → y < 4000) (h0 : s0 = 0 ∨ s0 = 1) : zp (zb_M_whole_391 N μ v4 s0) (fun r => ANQ (s0 = 1 ∧ ∀ y, y ∈ lst (pOut m c0 L (XT μ)) 0 n → ∃ y', y' ∈ Lm ∧ OEQ m c0 (XT μ y) (row40 μ y')) r.1) := by
  have ln := lst_len (p := pOut m c0 L (XT μ)) n 0
  have oln : (OLS m c0 L (XT μ) n).length = (lst (pOut m c0 L (XT μ)) 0 n).length := List.length_map ..
  have gv4 : v4 = Int32.ofNat (lst (pOut m c0 L (XT μ)) 0 n).length := by rw [← oln]; exact sl.1
  have sl1 : ∀ i (y : Nat), (lst (pOut m c0 L (XT μ)) 0 n)[i]? = some y → μ 117 i = Int32.ofNat (4000 + y) := fun i y e => sl.2 i (4000 + y) (by unfold OLS; rw [List.getElem?_map, e]; rfl)
  have fin : ∀ v5 : Int32, ANQ (s0 = 1 ∧ ∀ y, y ∈ lst (pOut m c0 L (XT μ)) 0 n → ∃ y', y' ∈ Lm ∧ OEQ m c0 (XT μ y) (row40 μ y')) v5 → zp (zb_M_whole_472 N μ v5) (fun r => ANQ (s0 = 1 ∧ ∀ y, y ∈ lst (pOut m c0 L (XT μ)) 0 n → ∃ y', y' ∈ Lm ∧ OEQ m c0 (XT μ y) (row40 μ y')) r.1) := fun v5 h => by
    unfold zb_M_whole_472
    rcases h with ⟨e, no⟩ | ⟨e, yes⟩
    · exact zp_ite (fun _ => zp_some (Or.inl ⟨rfl, no⟩)) fun q => absurd e q
    · exact zp_ite (fun z => absurd (e.symm.trans z) (by decide)) fun _ => zp_some (Or.inr ⟨rfl, yes⟩)
  have outer : ∀ (a i : Nat) (v5 : Int32), i ≤ (lst (pOut m c0 L (XT μ)) 0 n).length → ANQ (s0 = 1 ∧ ∀ j y, j < i → (lst (pOut m c0 L (XT μ)) 0 n)[j]? = some y → ∃ y', y' ∈ Lm ∧ OEQ m c0 (XT μ y) (row40 μ y')) v5 → zp (zb_M_whole_396 N a μ v4 v5 (Int32.ofNat i)) (fun r => ANQ (s0 = 1 ∧ ∀ y, y ∈ lst (pOut m c0 L (XT μ)) 0 n → ∃ y', y' ∈ Lm ∧ OEQ m c0 (XT μ y) (row40 μ y')) r.1) := by
    intro a
    induction a with
    | zero => intro _ _ _ _; exact zp_none
    | succ a ih =>
      intro i v5 hi h5
      rw [zb_M_whole_396]
      refine zp_ite (fun q => fin v5 ?_) fun q => zp_ite (fun z => fin v5 ?_) fun nz => ?_
      · rw [gv4] at q
        have il : (lst (pOut m c0 L (XT μ)) 0 n).length ≤ i := (zo_le (k := (lst (pOut m c0 L (XT μ)) 0 n).length) (j := i) (by omega) (by omega)).mp q
        rcases h5 with ⟨e, no⟩ | ⟨e, yes⟩
        · exact Or.inl ⟨e, fun k => no ⟨k.1, fun j y _ ge => k.2 y (List.mem_of_getElem? ge)⟩⟩
        · refine Or.inr ⟨e, yes.1, fun y my => ?_⟩
          obtain ⟨j, hj, ge⟩ := List.mem_iff_getElem.mp my
          exact yes.2 j y (by omega) (by rw [List.getElem?_eq_getElem hj, ge])
      · rcases h5 with ⟨e, no⟩ | ⟨e, _⟩
        · exact Or.inl ⟨e, fun k => no ⟨k.1, fun j y _ ge => k.2 y (List.mem_of_getElem? ge)⟩⟩
        · exact absurd (e.symm.trans z) (by decide)
      · have yes5 := (h5.resolve_left fun k => nz k.1).2
        rw [gv4] at q
        have il : i < (lst (pOut m c0 L (XT μ)) 0 n).length := by
          by_cases c : i < (lst (pOut m c0 L (XT μ)) 0 n).length
          · exact c
          · exact absurd ((zo_le (k := (lst (pOut m c0 L (XT μ)) 0 n).length) (j := i) (by omega) (by omega)).mpr (by omega)) q
        have ge := List.getElem?_eq_getElem il
        have mem := (lst_mem (p := pOut m c0 L (XT μ)) n 0 _).mp (List.mem_of_getElem? ge)
        have inner : ∀ (b j : Nat) (v7 : Int32), j ≤ Lm.length → ANQ (∃ l y', l < j ∧ Lm[l]? = some y' ∧ OEQ m c0 (XT μ ((lst (pOut m c0 L (XT μ)) 0 n)[i])) (row40 μ y')) v7 → zp (zb_M_whole_414 (zb_M_whole_396 N a) N b μ v4 (Int32.ofNat i) v7 (Int32.ofNat j)) (fun r => ANQ (s0 = 1 ∧ ∀ y, y ∈ lst (pOut m c0 L (XT μ)) 0 n → ∃ y', y' ∈ Lm ∧ OEQ m c0 (XT μ y) (row40 μ y')) r.1) := by
          intro b
          induction b with
          | zero => intro _ _ _ _; exact zp_none
          | succ b ihb =>
            intro j v7 hj h7
            rw [zb_M_whole_414, sm.1]
            unfold zb_M_whole_449 zb_M_whole_454
            refine zp_ite (fun q => ?_) fun q => ?_
            · have jl : Lm.length ≤ j := (zo_le (k := Lm.length) (j := j) (by omega) (by omega)).mp q
              rw [zo_1 (m := i) (by omega)]
              refine ih (i + 1) v7 (by omega) ?_
              rcases h7 with ⟨e, no⟩ | ⟨e, l, y', _, gl, oe⟩
              · refine Or.inl ⟨e, fun k => ?_⟩
                obtain ⟨y', my, oe⟩ := k.2 i _ (by omega) ge
                obtain ⟨l, hl, gl⟩ := List.mem_iff_getElem.mp my
                exact no ⟨l, y', by omega, by rw [List.getElem?_eq_getElem hl, gl], oe⟩
              · refine Or.inr ⟨e, yes5.1, fun j' y hj' ge' => ?_⟩
                by_cases c : j' = i
                · rw [c, ge] at ge'
                  injection ge' with ge'
                  rw [← ge']
                  exact ⟨y', List.mem_of_getElem? gl, oe⟩
                · exact yes5.2 j' y (by omega) ge'
            · have jl : j < Lm.length := by
                by_cases c : j < Lm.length
                · exact c
                · exact absurd ((zo_le (k := Lm.length) (j := j) (by omega) (by omega)).mpr (by omega)) q
              have gj := List.getElem?_eq_getElem jl
              rw [zo_1 (m := j) (by omega)]
              refine zp_ite (fun nz7 => ihb (j + 1) 1 (by omega) (Or.inr ⟨rfl, ?_⟩)) fun z7 => zp_chk fun _ => zp_chk fun _ => ?_
              · obtain ⟨l, y', hl, gl, oe⟩ := (h7.resolve_left fun k => nz7 k.1).2
                exact ⟨l, y', by omega, gl, oe⟩
              · rw [zo_n (m := i) (by omega), zo_n (m := j) (by omega), sl1 i _ ge, sm.2 j _ gj]
                refine zp_bind (zp_mono (m_isOutcomeB m4 c6 e15 e17 (by omega) (by have := lm.2 _ (List.mem_of_getElem? gj); omega)) fun r17 h17 => ?_)
                have no7 := (h7.resolve_right fun k => absurd ((Classical.not_not.mp z7).symm.trans k.1) (by decide)).2
                rcases h17 with ⟨e, no⟩ | ⟨e, yes⟩
                · refine zp_ite (fun _ => ihb (j + 1) 0 (by omega) (Or.inl ⟨rfl, fun k => ?_⟩)) fun q => absurd e q
                  obtain ⟨l, y', hl, gl, oe⟩ := k
                  by_cases c : l = j
                  · rw [c, gj] at gl
                    injection gl with gl
                    rw [← gl] at oe
                    exact no oe
                  · exact no7 ⟨l, y', by omega, gl, oe⟩
                · exact zp_ite (fun z => absurd (e.symm.trans z) (by decide)) fun _ => ihb (j + 1) 1 (by omega) (Or.inr ⟨rfl, j, _, by omega, gj, yes⟩)
        exact inner N 0 0 (Nat.zero_le _) (Or.inl ⟨rfl, fun k => by
          obtain ⟨l, _, hl, _⟩ := k
          omega⟩)
  unfold zb_M_whole_391
  refine outer N 0 s0 (Nat.zero_le _) ?_
  rcases h0 with e | e
  · exact Or.inl ⟨e, fun k => absurd (e.symm.trans k.1) (by decide)⟩
  · exact Or.inr ⟨e, e, fun j y hj => absurd hj (Nat.not_lt_zero _)⟩
theorem lst_inc {p : Nat → Prop} : ∀ (n a i j y z : Nat), i < j → (lst p a n)[i]? = some y → (lst p a n)[j]? = some z → y < z := by
  intro n
  induction n with
  | zero => intro a i j y z _ hi _; rw [lst, List.getElem?_nil] at hi; cases hi
  | succ n ih =>
    intro a i j y z ij hi hj
    rw [lst_snoc] at hi hj
    by_cases cj : j < (lst p a n).length
    · rw [List.getElem?_append_left cj] at hj
      rw [List.getElem?_append_left (by omega)] at hi
      exact ih a i j y z ij hi hj
    · rw [List.getElem?_append_right (by omega)] at hj
      have hz : z = a + n := by
        by_cases c : p (a + n)
        · rw [hil_y c] at hj
          have := List.mem_of_getElem? hj
          exact List.mem_singleton.mp this
        · rw [hil_n c, List.getElem?_nil] at hj
          cases hj
      have jl : j - (lst p a n).length < (hil (p (a + n)) (a + n)).length := (List.getElem?_eq_some_iff.mp hj).1
      have h1 : (hil (p (a + n)) (a + n)).length ≤ 1 := by
        by_cases c : p (a + n)
        · rw [hil_y c]; exact Nat.le_refl _
        · rw [hil_n c]; exact Nat.zero_le _
      rw [List.getElem?_append_left (by omega)] at hi
      have := (lst_mem n a y).mp (List.mem_of_getElem? hi)
      omega
theorem two_sets {n : Nat} {E : Nat → Nat → Prop} (one : ∀ i i' j, i < i' → i' < n → j < n → E i j → E i' j → False) (all : ∀ i, i < n → ∃ j, j < n ∧ E i j) : ∀ j, j < n → ∃ i, i < n ∧ E i j := by
  intro j hj
  by_cases c : ∃ i, i < n ∧ E i j
  · exact c
  · exfalso
    have ch : ∀ i, ∃ k, (i < n → k < n ∧ E i k) := fun i => by
      by_cases d : i < n
      · obtain ⟨k, a, b⟩ := all i d
        exact ⟨k, fun _ => ⟨a, b⟩⟩
      · exact ⟨0, fun k => absurd k d⟩
    obtain ⟨f, fh⟩ : ∃ f : Nat → Nat, ∀ i, i < n → f i < n ∧ E i (f i) := ⟨fun i => Classical.choose (ch i), fun i => Classical.choose_spec (ch i)⟩
    obtain ⟨i, i', ii, hi', e⟩ := z_pigeon (n - 1) n (fun i => if f i = n - 1 then j else f i) (by omega) fun i hi => by
      have k := fh i hi
      by_cases d : f i = n - 1
      · rw [if_pos d]
        by_cases q : j = n - 1
        · exact absurd ⟨i, hi, by rw [q, ← d]; exact k.2⟩ c
        · omega
      · rw [if_neg d]
        have := k.1
        omega
    have ka := fh i (by omega)
    have kb := fh i' hi'
    have ff : f i = f i' := by
      by_cases d : f i = n - 1
      · by_cases d' : f i' = n - 1
        · rw [d, d']
        · rw [if_pos d, if_neg d'] at e
          exact absurd ⟨i', hi', by rw [e]; exact kb.2⟩ c
      · by_cases d' : f i' = n - 1
        · rw [if_neg d, if_pos d'] at e
          exact absurd ⟨i, by omega, by rw [← e]; exact ka.2⟩ c
        · rw [if_neg d, if_neg d'] at e
          exact e
    exact one i i' (f i) ii hi' ka.1 ka.2 (by rw [ff]; exact kb.2)
theorem out_same {m c0 n nM : Nat} {L LM : Nat → Int32} {X XM : Nat → Nat → Int32} (el : (lst (pOut m c0 L X) 0 n).length = (lst (pOut m c0 LM XM) 0 nM).length) : (∀ y, y ∈ lst (pOut m c0 L X) 0 n → ∃ y', y' ∈ lst (pOut m c0 LM XM) 0 nM ∧ OEQ m c0 (X y) (XM y')) ↔ (∀ y', y' ∈ lst (pOut m c0 LM XM) 0 nM → ∃ y, y ∈ lst (pOut m c0 L X) 0 n ∧ OEQ m c0 (X y) (XM y')) := by
  have dis : ∀ {L : Nat → Int32} {X : Nat → Nat → Int32} {n : Nat} (i i' y y' : Nat), i < i' → (lst (pOut m c0 L X) 0 n)[i]? = some y → (lst (pOut m c0 L X) 0 n)[i']? = some y' → ¬ OEQ m c0 (X y) (X y') := fun {L X n} i i' y y' ii e e' oe => by
    have lt := lst_inc n 0 i i' y y' ii e e'
    have a := (lst_mem (p := pOut m c0 L X) n 0 y).mp (List.mem_of_getElem? e)
    have b := (lst_mem (p := pOut m c0 L X) n 0 y').mp (List.mem_of_getElem? e')
    exact b.2.2.2 y lt a.2.2.1 oe
  constructor
  · intro h y' my'
    obtain ⟨j, hj, gj⟩ := List.mem_iff_getElem.mp my'
    obtain ⟨i, hi, y, z, ei, ej, oe⟩ := two_sets (n := (lst (pOut m c0 L X) 0 n).length) (E := fun i j => ∃ y z, (lst (pOut m c0 L X) 0 n)[i]? = some y ∧ (lst (pOut m c0 LM XM) 0 nM)[j]? = some z ∧ OEQ m c0 (X y) (XM z)) (fun i i' j ii hi' hj a b => by
      obtain ⟨y, z, e1, e2, o1⟩ := a
      obtain ⟨y2, z2, e3, e4, o2⟩ := b
      rw [e2] at e4
      injection e4 with e4
      subst e4
      exact dis i i' y y2 ii e1 e3 (o1.tr o2.sy)) (fun i hi => by
      have ge := List.getElem?_eq_getElem hi
      obtain ⟨z, mz, oe⟩ := h _ (List.mem_of_getElem? ge)
      obtain ⟨k, hk, gk⟩ := List.mem_iff_getElem.mp mz
      exact ⟨k, by omega, _, z, ge, by rw [List.getElem?_eq_getElem hk, gk], oe⟩) j (by omega)
    rw [List.getElem?_eq_getElem hj, gj] at ej
    injection ej with ej
    subst ej
    exact ⟨y, List.mem_of_getElem? ei, oe⟩
  · intro h y my
    obtain ⟨i, hi, gi⟩ := List.mem_iff_getElem.mp my
    obtain ⟨j, hj, z, y2, ej, ei, oe⟩ := two_sets (n := (lst (pOut m c0 L X) 0 n).length) (E := fun j i => ∃ z y, (lst (pOut m c0 LM XM) 0 nM)[j]? = some z ∧ (lst (pOut m c0 L X) 0 n)[i]? = some y ∧ OEQ m c0 (X y) (XM z)) (fun j j' i jj hj' hi a b => by
      obtain ⟨z, y, e1, e2, o1⟩ := a
      obtain ⟨z2, y2, e3, e4, o2⟩ := b
      rw [e2] at e4
      injection e4 with e4
      subst e4
      exact dis j j' z z2 jj e1 e3 (o1.sy.tr o2)) (fun j hj => by
      have hj' : j < (lst (pOut m c0 LM XM) 0 nM).length := by omega
      have ge := List.getElem?_eq_getElem hj'
      obtain ⟨y, my, oe⟩ := h _ (List.mem_of_getElem? ge)
      obtain ⟨k, hk, gk⟩ := List.mem_iff_getElem.mp my
      exact ⟨k, hk, _, y, ge, by rw [List.getElem?_eq_getElem hk, gk], oe⟩) i hi
    rw [List.getElem?_eq_getElem hi, gi] at ei
    injection ei with ei
    subst ei
    exact ⟨z, List.mem_of_getElem? ej, oe⟩
