-- both answer alike
set_option maxRecDepth 2000
theorem m_outY {k68 : zS → Int32 → Option (Int32 × zS)} {N m c0 S : Nat} {μ : zS} {L : Nat → Int32} {v3 s0 : Int32} {R : Int32 × zS → Prop} (m4 : m ≤ 4) (c6 : c0 ≤ 6) (e15 : μ 82 15 = Int32.ofNat c0) (e17 : μ 82 17 = Int32.ofNat m) (hS : S < 4000) (ev : v3 = L S) (v01 : L S = 0 ∨ L S = 1) (sl : STL (μ 82 60) (μ 115) (lst (pOut m c0 L (row40 μ)) 0 S)) (h : ∀ μ' : zS, (∀ q, q ≠ 82 → q ≠ 113 → q ≠ 115 → μ' q = μ q) → (∀ i, i ≠ 60 → μ' 82 i = μ 82 i) → μ' 113 = zu (μ 113) S s0 → STL (μ' 82 60) (μ' 115) (lst (pOut m c0 L (row40 μ)) 0 (S + 1)) → zp (k68 μ' (Int32.ofNat (S + 1))) R) : zp (zb_M_run_197 k68 N μ (Int32.ofNat S) v3 s0 (Int32.ofNat S)) R := by
  have ln := lst_len (p := pOut m c0 L (row40 μ)) S 0
  unfold zb_M_run_197 zb_M_run_275
  rw [zo_n (m := S) (by omega), zo_1 (m := S) (by omega)]
  have a0 : ∀ q, q ≠ 82 → q ≠ 113 → q ≠ 115 → (zx_up μ 113 S s0) q = μ q := fun q x y z => zu_other y
  have b0 : (zx_up μ 113 S s0) 82 = μ 82 := zu_other (by decide)
  have c0' : (zx_up μ 113 S s0) 113 = zu (μ 113) S s0 := zx_up_same ..
  have d0 : (zx_up μ 113 S s0) 115 = μ 115 := zu_other (by decide)
  have r0 : ∀ s, row40 (zx_up μ 113 S s0) s = row40 μ s := fun s => by unfold row40; rw [a0 108 (by decide) (by decide) (by decide)]
  generalize (zx_up μ 113 S s0) = ν at a0 b0 c0' d0 r0 ⊢
  have g60 : ν 82 60 = Int32.ofNat (lst (pOut m c0 L (row40 μ)) 0 S).length := by rw [b0]; exact sl.1
  have keep : ¬ pOut m c0 L (row40 μ) S → zp (k68 ν (Int32.ofNat (S + 1))) R := fun no => h ν a0 (fun i _ => by rw [b0]) c0' (by rw [lst_no no, b0, d0]; exact sl)
  refine zp_chk fun _ => zp_ite (fun z => keep fun p => ?_) fun nz => ?_
  · rw [ev] at z
    exact absurd (z.symm.trans p.1) (by decide)
  have last : L S = 1 := v01.resolve_left fun z => nz (ev.trans z)
  have fin : ∀ v4 : Int32, ANQ (∀ i y, (lst (pOut m c0 L (row40 μ)) 0 S)[i]? = some y → ¬ OEQ m c0 (row40 μ y) (row40 μ S)) v4 → zp (zb_M_run_250 k68 N ν (Int32.ofNat S) v4) R := fun v4 h4 => by
    unfold zb_M_run_250 zb_M_run_275
    rw [g60, zo_1 (m := S) (by omega)]
    rcases h4 with ⟨e, no⟩ | ⟨e, yes⟩
    · refine zp_ite (fun _ => keep fun p => no fun i y ge o => ?_) fun z => absurd e z
      have mem := (lst_mem (p := pOut m c0 L (row40 μ)) S 0 y).mp (List.mem_of_getElem? ge)
      exact p.2 y (by omega) mem.2.2.1 o
    · have new : pOut m c0 L (row40 μ) S := ⟨last, fun s' h1 h2 h3 => by
        obtain ⟨y, y1, y2, y3⟩ := out_cover (m := m) (c0 := c0) (L := L) (X := row40 μ) S s' h1 h2
        have mem : y ∈ lst (pOut m c0 L (row40 μ)) 0 S := (lst_mem S 0 y).mpr ⟨by omega, by omega, y2⟩
        obtain ⟨i, hi, ge⟩ := List.mem_iff_getElem.mp mem
        exact yes i y (by rw [List.getElem?_eq_getElem hi, ge]) (y3.tr h3)⟩
      refine zp_ite (fun z => absurd (e.symm.trans z) (by decide)) fun _ => zp_chk fun _ => ?_
      rw [zo_n (m := (lst (pOut m c0 L (row40 μ)) 0 S).length) (by omega), zo_1 (m := (lst (pOut m c0 L (row40 μ)) 0 S).length) (by omega)]
      refine h _ (fun q x y z => by rw [zu_other x, zu_other z]; exact a0 q x y z) (fun i hi => by rw [zx_up_same, zu_ne hi, zu_other (by decide), b0]) (by rw [zu_other (by decide), zu_other (by decide)]; exact c0') ?_
      rw [lst_y new, zx_up_same, zu_eq, zu_other (by decide), zx_up_same, d0]
      exact sl.snoc
  have lp : ∀ (n j : Nat) (v4 : Int32), j ≤ (lst (pOut m c0 L (row40 μ)) 0 S).length → ANQ (∀ i y, i < j → (lst (pOut m c0 L (row40 μ)) 0 S)[i]? = some y → ¬ OEQ m c0 (row40 μ y) (row40 μ S)) v4 → zp (zb_M_run_208 k68 N n ν (Int32.ofNat S) v4 (Int32.ofNat j)) R := by
    intro n
    induction n with
    | zero => intro _ _ _ _; exact zp_none
    | succ n ih =>
      intro j v4 hj h4
      rw [zb_M_run_208, g60]
      unfold zb_M_run_242
      refine zp_ite (fun q => fin v4 ?_) fun q => zp_ite (fun z => fin v4 ?_) fun nz => zp_chk fun _ => ?_
      · have jl : (lst (pOut m c0 L (row40 μ)) 0 S).length ≤ j := (zo_le (k := (lst (pOut m c0 L (row40 μ)) 0 S).length) (j := j) (by omega) (by omega)).mp q
        rcases h4 with ⟨e, no⟩ | ⟨e, yes⟩
        · exact Or.inl ⟨e, fun k => no fun i y _ ge => k i y ge⟩
        · exact Or.inr ⟨e, fun i y ge => yes i y (by have := (List.getElem?_eq_some_iff.mp ge).1; omega) ge⟩
      · rcases h4 with ⟨e, no⟩ | ⟨e, _⟩
        · exact Or.inl ⟨e, fun k => no fun i y _ ge => k i y ge⟩
        · exact absurd (e.symm.trans z) (by decide)
      · have jl : j < (lst (pOut m c0 L (row40 μ)) 0 S).length := by
          by_cases c : j < (lst (pOut m c0 L (row40 μ)) 0 S).length
          · exact c
          · exact absurd ((zo_le (k := (lst (pOut m c0 L (row40 μ)) 0 S).length) (j := j) (by omega) (by omega)).mpr (by omega)) q
        have ge := List.getElem?_eq_getElem jl
        have mem := (lst_mem (p := pOut m c0 L (row40 μ)) S 0 _).mp (List.mem_of_getElem? ge)
        have v115 : ν 115 j = Int32.ofNat ((lst (pOut m c0 L (row40 μ)) 0 S)[j]) := by rw [d0]; exact sl.2 j _ ge
        rw [zo_n (m := j) (by omega), zo_1 (m := j) (by omega), v115]
        refine zp_bind (zp_mono (m_isOutcome m4 c6 (by rw [b0]; exact e15) (by rw [b0]; exact e17) (by omega) hS) fun r19 h19 => ?_)
        rw [r0, r0] at h19
        have yes4 := h4.resolve_left fun k => nz k.1
        rcases h19 with ⟨e, no⟩ | ⟨e, yes⟩
        · refine zp_ite (fun q => absurd e q) fun _ => ih (j + 1) 1 (by omega) (Or.inr ⟨rfl, fun i y hi ge' => ?_⟩)
          by_cases c : i = j
          · rw [c, ge] at ge'
            injection ge' with ge'
            rw [← ge']
            exact no
          · exact yes4.2 i y (by omega) ge'
        · exact zp_ite (fun _ => ih (j + 1) 0 (by omega) (Or.inl ⟨rfl, fun k => k j _ (by omega) ge yes⟩)) fun q => absurd (by rw [e]; decide) q
  exact lp N 0 1 (by omega) (Or.inr ⟨rfl, fun i y hi => absurd hi (Nat.not_lt_zero _)⟩)
