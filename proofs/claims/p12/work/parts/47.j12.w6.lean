-- both answer alike
set_option maxRecDepth 2000
def LV1 (d t L : Nat) (ρ r : zS) : Prop :=
  (ρ 30 (d - 1) = 0 ∧ ∃ r', FN1 t L ρ r' ∧ (∀ q, q ≠ 29 → r q = r' q)) ∨
  (ρ 30 (d - 1) = 1 ∧ ∃ r', EM t L 4 (ρ 31 (d - 1)) ρ r' ∧ EW t L ρ r' ∧ (∀ q, q ≠ 29 → r q = r' q) ∧ (r 29 9 = r' 29 9 ∧ r 29 10 = r' 29 10) ∧ r 29 11 = ρ 34 (d - 1)) ∨
  (ρ 30 (d - 1) = 2 ∧ (∀ q, q ≠ 29 → r q = ρ q) ∧ (∀ i, i ≠ 6 → i ≠ 12 → r 29 i = ρ 29 i)) ∨
  (ρ 30 (d - 1) = 3 ∧ (∀ q, q ≠ 29 → r q = ρ q) ∧ (∀ i, i ≠ 6 → i ≠ 10 → r 29 i = ρ 29 i) ∧ r 29 10 = ρ 29 10 ||| zJ_shl 1 (ρ 31 (d - 1))) ∨
  (ρ 30 (d - 1) = 4 ∧ (∀ q, q ≠ 29 → r q = ρ q) ∧ (∀ i, i ≠ 6 → i ≠ 9 → i ≠ 10 → r 29 i = ρ 29 i) ∧ r 29 9 = ρ 29 9 ||| ρ 32 (d - 1) ∧ r 29 10 = ρ 29 10 ||| ρ 33 (d - 1)) ∨
  ((ρ 30 (d - 1) ≠ 0 ∧ ρ 30 (d - 1) ≠ 1 ∧ ρ 30 (d - 1) ≠ 2 ∧ ρ 30 (d - 1) ≠ 3 ∧ ρ 30 (d - 1) ≠ 4) ∧ ∃ r', CO1 t (ρ 31 (d - 1)) ρ r' ∧ (∀ q, q ≠ 29 → r q = r' q) ∧ r 29 9 = 0 ∧ r 29 10 = zJ_shl 1 (ρ 31 (d - 1)) ∧ r 29 11 = ρ 29 11)
theorem p_X_leave1 {N d t L : Nat} {ρ : zS} (h6 : ρ 29 6 = Int32.ofNat d) (hd : 0 < d ∧ d ≤ 8) (h8 : ρ 29 8 = Int32.ofNat t) (ht : t < 4) (h5 : ρ 5 t = Int32.ofNat L) (hL24 : L ≤ 24) (hL : ρ 30 (d - 1) = 1 → L < 24) : zp (zf_Weaver_leave N ρ) (fun r => LV1 d t L ρ r) := by
  unfold zf_Weaver_leave zb_Weaver_leave_166
  rw [h6, zo_pred hd.1 (by omega), zo_n (by omega)]
  refine zp_ite (fun q => ?_) fun _ => zp_ite (fun _ => zp_chk fun _ => zp_chk fun _ => zp_ite (fun s0 => zp_bind (zp_mono (p_X_finish1 h8 ht h5 hL24) fun r c => zp_some ?_)) fun s0 => zp_ite (fun s1 => zp_bind (zp_mono (zp_and (p_X_emit h8 ht h5 (hL s1)) (p_X_emitW h8 ht h5 (hL s1))) fun r em => zp_chk fun _ => zp_some ?_)) fun s1 => zp_ite (fun s2 => zp_some ?_) fun s2 => zp_ite (fun s3 => zp_some ?_) fun s3 => zp_ite (fun s4 => zp_chk fun _ => zp_chk fun _ => zp_some ?_) fun s4 => zp_bind (zp_mono (p_X_closeOpen1 h8 ht) fun r c => zp_some ?_)) fun q => ?_
  · have := (zo_le (k := d) (j := 0) (by omega) (by omega)).mp q
    omega
  · exact Or.inl ⟨s0, r, c, fun q e => by rw [zu_other e]⟩
  · refine Or.inr (Or.inl ⟨s1, r, em.1, em.2, fun q e => by rw [zu_other e, zu_other e], ⟨by rw [zx_up_same, zu_ne (by decide), zx_up_same, zu_ne (by decide)], by rw [zx_up_same, zu_ne (by decide), zx_up_same, zu_ne (by decide)]⟩, ?_⟩)
    rw [zx_up_same, zu_ne (by decide), zx_up_same, zu_eq, em.1.1 34 (by decide) (by decide) (by decide) (by decide) (by decide) (by decide) (by decide) (by decide) (by decide)]
  · exact Or.inr (Or.inr (Or.inl ⟨s2, fun q e => by rw [zu_other e, zu_other e], fun i a b => by rw [zx_up_same, zu_ne a, zx_up_same, zu_ne b]⟩))
  · exact Or.inr (Or.inr (Or.inr (Or.inl ⟨s3, fun q e => by rw [zu_other e, zu_other e], fun i a b => by rw [zx_up_same, zu_ne a, zx_up_same, zu_ne b], by rw [zx_up_same, zu_ne (by decide), zx_up_same, zu_eq]⟩)))
  · exact Or.inr (Or.inr (Or.inr (Or.inr (Or.inl ⟨s4, fun q e => by rw [zu_other e, zu_other e, zu_other e], fun i a b c => by rw [zx_up_same, zu_ne a, zx_up_same, zu_ne c, zx_up_same, zu_ne b], by rw [zx_up_same, zu_ne (by decide), zx_up_same, zu_ne (by decide), zx_up_same, zu_eq], by rw [zx_up_same, zu_ne (by decide), zx_up_same, zu_eq]⟩))))
  · refine Or.inr (Or.inr (Or.inr (Or.inr (Or.inr ⟨⟨s0, s1, s2, s3, s4⟩, r, c, fun q e => by rw [zu_other e, zu_other e], ?_, by rw [zx_up_same, zu_ne (by decide), zx_up_same, zu_eq], ?_⟩))))
    · rw [zx_up_same, zu_ne (by decide), zx_up_same, zu_ne (by decide)]; exact c.2.1
    · rw [zx_up_same, zu_ne (by decide), zx_up_same, zu_ne (by decide)]; exact c.1.2 11 (by decide) (by decide)
  · exact absurd ((zo_le (k := d) (j := 8) (by omega) (by omega)).mpr hd.2) q
theorem p_M_way1 {μ : zS} {z : Nat} (hz : z < 24) : zp (zf_M_wayOf μ (Int32.ofNat z) 1) (fun r => r.1 = Int32.ofNat (2 * z + 1) ∧ r.2 = zx_up μ 102 (2 * z + 1) (-1)) := by
  unfold zf_M_wayOf
  have e2 : 2 * Int32.ofNat z + 1 = Int32.ofNat (2 * z + 1) := zo_two (p := 1) (by omega) (by omega)
  rw [e2, zo_n (by omega)]
  exact zp_chk fun _ => zp_some ⟨rfl, rfl⟩
theorem p_M_can40 {μ : zS} : zp (zf_M_cannot μ) (fun ν => ν 82 40 = μ 82 40) := by
  have A : ∀ k, zp (zf_M_fail μ k) (fun ν => ν 82 40 = μ 82 40) := fun k => by
    unfold zf_M_fail
    exact zp_ite (fun _ => zp_some rfl) fun _ => zp_some (by rw [zx_up_same, zu_ne (by decide), zx_up_same, zu_ne (by decide), zx_up_same, zu_ne (by decide)])
  unfold zf_M_cannot zb_M_cannot_14
  exact zp_ite (fun _ => zp_bind (zp_mono (A 2) fun r hr => zp_some hr)) fun _ => zp_bind (zp_mono (A 1) fun r hr => zp_some hr)
def C7W (d : Nat) (lo : List Nat) (μ s : zS) : Prop :=
  (μ 103 (d - 1) ≠ 3 → (∀ q, q ≠ 82 → s q = μ q) ∧ s 82 37 = μ 82 37) ∧
  (μ 103 (d - 1) = 3 → ∀ z, z < 24 → μ 104 (d - 1) = Int32.ofNat z → 2 * z + 1 ∉ lo → ((∀ q, q ≠ 82 → q ≠ 102 → s q = μ q) ∧ Ch (s 102) ([2 * z + 1] ++ lo) (s 82 37) ∧ ∀ k, k ≠ 2 * z + 1 → s 102 k = μ 102 k) ∨ ((∀ q, q ≠ 82 → q ≠ 102 → q ≠ 103 → q ≠ 104 → q ≠ 105 → q ≠ 106 → s q = μ q) ∧ (s 82 37 = Int32.ofNat (2 * z + 1) ∧ s 102 (2 * z + 1) = -1 ∧ ∀ k, k ≠ 2 * z + 1 → s 102 k = μ 102 k) ∧ (s 103 (d - 1) = 4 ∧ s 104 (d - 1) = Int32.ofNat z ∧ s 105 (d - 1) = μ 82 37) ∧ (∀ j, j ≠ d - 1 → s 103 j = μ 103 j ∧ s 104 j = μ 104 j ∧ s 105 j = μ 105 j ∧ s 106 j = μ 106 j)) ∨ s 82 9 ≠ 0) ∧
  s 82 40 = μ 82 40
theorem p_M_177W {T : TS} {a N d : Nat} {μ : zS} {lo : List Nat} (sm : SM T a μ) (hk : T.1 a = 125) (h46 : μ 82 46 = Int32.ofNat d) (hd : 0 < d ∧ d ≤ 8) (hc : Ch (μ 102) lo (μ 82 37)) (hm : μ 103 (d - 1) = 3 → ∃ z, z < 24 ∧ μ 104 (d - 1) = Int32.ofNat z ∧ 2 * z + 1 ∉ lo) : zp (zb_M_closeBlock_177 N μ (Int32.ofNat (d - 1))) (fun s => C7W d lo μ s) := by
  have kk : ¬ T.1 a = 0 ∧ ¬ T.1 a = 1 := by rw [hk]; decide
  unfold zb_M_closeBlock_177
  rw [h46, zo_pred hd.1 (by omega), zo_n (by omega)]
  have sm0 : SM T a (zx_up μ 82 46 (Int32.ofNat (d - 1))) := sm.of (zu_other (by decide)) fun i hi => by rw [zx_up_same, zu_ne (by omega)]
  refine zp_bind (zp_mono (sm0.nx kk) ?_)
  rintro r7 ⟨s7, f7⟩
  have g7 : ∀ q, q ≠ 82 → r7 q = μ q := fun q hq => by rw [f7.1 q hq, zu_other hq]
  have i7 : ∀ i, i ≠ 5 → i ≠ 6 → i ≠ 7 → i ≠ 8 → i ≠ 46 → r7 82 i = μ 82 i := fun i a b c d e => by rw [f7.2 i a b c d, zx_up_same, zu_ne e]
  have d7 : r7 82 46 = Int32.ofNat (d - 1) := by rw [f7.2 46 (by decide) (by decide) (by decide) (by decide), zx_up_same, zu_eq]
  have o7 : r7 82 37 = μ 82 37 := i7 37 (by decide) (by decide) (by decide) (by decide) (by decide)
  have h7 : r7 82 40 = μ 82 40 := i7 40 (by decide) (by decide) (by decide) (by decide) (by decide)
  rw [g7 103 (by decide)]
  refine zp_chk fun _ => zp_ite (fun n3 => zp_some ⟨fun _ => ⟨g7, o7⟩, fun q => absurd q n3, h7⟩) fun n3 => ?_
  have k3 : μ 103 (d - 1) = 3 := Classical.not_not.mp n3
  obtain ⟨z, z24, z4, zlo⟩ := hm k3
  have one : ∀ z', μ 104 (d - 1) = Int32.ofNat z' → z' < 24 → z' = z := fun z' e h => zo_inj (by omega) (by omega) (e.symm.trans z4)
  refine zp_bind (zp_mono (p_M_isWord s7.d (c := 6) (by decide)) fun r10 h10 => zp_ite (fun y => zp_chk fun _ => ?_) fun y => ?_)
  · rw [g7 104 (by decide), z4]
    refine zp_bind (zp_mono (p_M_way1 z24) fun r13 h13 => ?_)
    rw [h13.1, h13.2]
    have c1 : Ch ((zx_up r7 102 (2 * z + 1) (-1)) 102) [2 * z + 1] (Int32.ofNat (2 * z + 1)) := Ch.one (by omega) (by rw [zx_up_same, zu_eq])
    have c2 : Ch ((zx_up r7 102 (2 * z + 1) (-1)) 102) lo ((zx_up r7 102 (2 * z + 1) (-1)) 82 37) := by
      rw [zu_other (q := 102) (p := 82) (by decide), o7, zx_up_same, g7 102 (by decide)]
      exact Ch.congr (fun k hk => zu_ne (fun q => zlo (q ▸ hk))) hc
    refine zp_bind (zp_mono (p_M_join1 c1 c2 (fun k hk => by rw [List.mem_singleton] at hk; rw [hk]; exact zlo)) fun r14 fj => zp_some ⟨fun q => absurd k3 q, fun _ z' h24 e _ => Or.inl ⟨fun q a b => by rw [fj.fr q a b, zu_other b, g7 q a], ?_, fun k hk => ?_⟩, by rw [fj.ff 40 (by decide), zu_other (by decide)]; exact h7⟩)
    · rw [one z' e h24]; exact fj.ch
    · rw [one z' e h24] at hk
      rw [fj.ce k (fun q => hk (List.mem_singleton.mp q)), zx_up_same, zu_ne hk, g7 102 (by decide)]
  · have k5 : T.1 (a + 1) = 305 := by
      rcases h10 with h | h
      · exact absurd h.1 y
      · exact h.2
    refine zp_bind (zp_mono (s7.nx (by rw [k5]; decide)) ?_)
    rintro r15 ⟨s15, f15⟩
    refine zp_chk fun _ => ?_
    rw [f15.1 104 (by decide), g7 104 (by decide), z4]
    refine zp_bind (zp_mono (p_M_way1 z24) fun r17 h17 => zp_chk fun _ => ?_)
    rw [h17.1, h17.2]
    generalize hV : zx_up (zx_up r15 102 (2 * z + 1) (-1)) 82 37 (Int32.ofNat (2 * z + 1)) = V
    have Vq : ∀ q, q ≠ 82 → q ≠ 102 → V q = μ q := fun q a b => by rw [← hV, zu_other a, zu_other b, f15.1 q a, g7 q a]
    have V37 : V 82 37 = Int32.ofNat (2 * z + 1) := by rw [← hV, zx_up_same, zu_eq]
    have V82 : ∀ i, i ≠ 37 → V 82 i = r15 82 i := fun i hi => by rw [← hV, zx_up_same, zu_ne hi, zu_other (by decide)]
    have V102 : V 102 (2 * z + 1) = -1 := by rw [← hV, zu_other (by decide), zx_up_same, zu_eq]
    have V102' : ∀ k, k ≠ 2 * z + 1 → V 102 k = μ 102 k := fun k hk => by rw [← hV, zu_other (by decide), zx_up_same, zu_ne hk, f15.1 102 (by decide), g7 102 (by decide)]
    clear hV
    have smV : SM T (a + 2) V := s15.of (by rw [Vq 84 (by decide) (by decide), f15.1 84 (by decide), g7 84 (by decide)]) fun i hi => V82 i (by omega)
    have dV : V 82 46 = Int32.ofNat (d - 1) := by rw [V82 46 (by decide), f15.2 46 (by decide) (by decide) (by decide) (by decide)]; exact d7
    have V40 : V 82 40 = μ 82 40 := by rw [V82 40 (by decide), f15.2 40 (by decide) (by decide) (by decide) (by decide)]; exact h7
    have O37 : r15 82 37 = μ 82 37 := by rw [f15.2 37 (by decide) (by decide) (by decide) (by decide)]; exact o7
    rw [show (zx_up r15 102 (2 * z + 1) (-1)) 104 (d - 1) = Int32.ofNat z by rw [zu_other (by decide), f15.1 104 (by decide), g7 104 (by decide)]; exact z4]
    unfold zf_M_openBlock
    have d8 : ¬ V 82 46 = 8 := by
      rw [dV]
      intro q
      have := zo_inj (k := d - 1) (j := 8) (by omega) (by omega) q
      omega
    refine zp_bind (zp_ite (fun _ => zp_bind (zp_mono (p_M_isSign smV.d (c := 123) (by decide)) fun u hu => zp_ite (fun x => zp_ite (fun _ => ?_) fun q => absurd d8 q) fun x => ?_)) fun q => absurd smV.2.2.2 q)
    · have k3' : T.1 (a + 2) = 123 := by
        rcases hu with h | h
        · exact absurd h.1 x
        · exact h.2
      refine zp_bind (zp_mono (smV.nx (by rw [k3']; decide)) ?_)
      rintro r5 ⟨s5, f5⟩
      have e46 : r5 82 46 = Int32.ofNat (d - 1) := by rw [f5.2 46 (by decide) (by decide) (by decide) (by decide)]; exact dV
      rw [e46, zo_n (by omega)]
      refine zp_chk fun _ => zp_chk fun _ => zp_chk fun _ => zp_some (zp_chk fun _ => zp_some ⟨fun q => absurd k3 q, fun _ z' h24 e _ => Or.inr (Or.inl ?_), ?_⟩)
      · rw [one z' e h24, O37]
        refine ⟨fun q a1 a2 a3 a4 a5 a6 => ?_, ⟨?_, ?_, fun k hk => ?_⟩, ⟨?_, ?_, ?_⟩, fun j hj => ⟨?_, ?_, ?_, ?_⟩⟩
        · rw [zu_other a5, zu_other a1, zu_other a6, zu_other a4, zu_other a3, f5.1 q a1, Vq q a1 a2]
        · rw [zu_other (by decide), zx_up_same, zu_ne (by decide), zu_other (by decide), zu_other (by decide), zu_other (by decide), f5.2 37 (by decide) (by decide) (by decide) (by decide)]; exact V37
        · iterate 5 rw [zu_other (by decide)]
          rw [f5.1 102 (by decide)]; exact V102
        · iterate 5 rw [zu_other (by decide)]
          rw [f5.1 102 (by decide)]; exact V102' k hk
        · iterate 4 rw [zu_other (by decide)]
          rw [zx_up_same, zu_eq]
        · iterate 3 rw [zu_other (by decide)]
          rw [zx_up_same, zu_eq]
        · rw [zx_up_same, zu_eq]
        · iterate 4 rw [zu_other (by decide)]
          rw [zx_up_same, zu_ne hj, f5.1 103 (by decide), Vq 103 (by decide) (by decide)]
        · iterate 3 rw [zu_other (by decide)]
          rw [zx_up_same, zu_ne hj, zu_other (by decide), f5.1 104 (by decide), Vq 104 (by decide) (by decide)]
        · rw [zx_up_same, zu_ne hj]
          iterate 4 rw [zu_other (by decide)]
          rw [f5.1 105 (by decide), Vq 105 (by decide) (by decide)]
        · rw [zu_other (by decide), zu_other (by decide), zx_up_same, zu_ne hj, zu_other (by decide), zu_other (by decide), f5.1 106 (by decide), Vq 106 (by decide) (by decide)]
      · rw [zu_other (by decide), zx_up_same, zu_ne (by decide), zu_other (by decide), zu_other (by decide), zu_other (by decide), f5.2 40 (by decide) (by decide) (by decide) (by decide)]; exact V40
    · refine zp_bind (zp_mono (zp_and (p_M_cannot smV.2.2.2) p_M_can40) fun s hs => zp_some (zp_chk fun _ => zp_some ⟨fun q => absurd k3 q, fun _ z' h24 e _ => Or.inr (Or.inr ?_), ?_⟩))
      · rw [zu_other (by decide)]; exact hs.1.1
      · rw [zu_other (by decide), hs.2]; exact V40
