-- both answer alike
set_option maxRecDepth 2000
theorem p_X_finish {N : Nat} {ρ : zS} : zp (zf_Weaver_finishThread N ρ) (fun r => CO0 ρ r) := by
  unfold zf_Weaver_finishThread
  refine zp_bind fun r1 _ => zp_bind (zp_mono p_X_closeOpen fun r2 c => ?_)
  have go : ∀ (n : Nat) (r : zS) (v : Int32), CO0 ρ r → zp (zb_Weaver_finishThread_19 N n r r1 v) (fun r => CO0 ρ r) := by
    intro n
    induction n with
    | zero => intro _ _ _; exact zp_none
    | succ n ih =>
      intro r v h
      have A : ∀ r', CO0 ρ r' → zp (zb_Weaver_finishThread_67 (zb_Weaver_finishThread_19 N n) N r' r1 v) (fun r => CO0 ρ r) := fun r' h' => by
        unfold zb_Weaver_finishThread_67; exact ih r' (v + 1) h'
      rw [zb_Weaver_finishThread_19]
      refine zp_ite (fun _ => zp_some h) fun _ => zp_ite (fun _ => zp_some h) fun _ => zp_bind fun r5 _ => zp_chk fun _ => zp_ite (fun _ => A r h) fun _ => zp_chk fun _ => A _ ⟨fun q a b c => by rw [zu_other a]; exact h.1 q a b c, fun j a b => by rw [zu_other (by decide)]; exact h.2 j a b⟩
  exact go N r2 0 c
def LV (d t L : Nat) (ρ r : zS) : Prop :=
  r 29 6 = Int32.ofNat (d - 1) ∧ r 29 8 = ρ 29 8 ∧
  ((ρ 30 (d - 1) = 1 ∧ (∃ m r', EM t L 4 m ρ r' ∧ (∀ q, q ≠ 29 → r q = r' q)) ∧ r 29 12 = ρ 29 12) ∨
   (ρ 30 (d - 1) ≠ 1 ∧ (∀ q, q ≠ 9 → q ≠ 10 → q ≠ 29 → r q = ρ q) ∧ ((ρ 30 (d - 1) = 2 ∧ r 29 12 = -1) ∨ (ρ 30 (d - 1) ≠ 2 ∧ r 29 12 = ρ 29 12))))
theorem p_X_leave {N d t L : Nat} {ρ : zS} (h6 : ρ 29 6 = Int32.ofNat d) (hd : 0 < d ∧ d ≤ 8) (h8 : ρ 29 8 = Int32.ofNat t) (ht : t < 4) (h5 : ρ 5 t = Int32.ofNat L) (hL : ρ 30 (d - 1) = 1 → L < 24) : zp (zf_Weaver_leave N ρ) (fun r => LV d t L ρ r) := by
  unfold zf_Weaver_leave zb_Weaver_leave_166
  rw [h6, zo_pred hd.1 (by omega), zo_n (by omega)]
  refine zp_ite (fun q => ?_) fun _ => zp_ite (fun _ => zp_chk fun _ => zp_chk fun _ => zp_ite (fun s0 => zp_bind (zp_mono p_X_finish fun r c => zp_some ?_)) fun s0 => zp_ite (fun s1 => zp_bind (zp_mono (p_X_emit h8 ht h5 (hL s1)) fun r em => zp_chk fun _ => zp_some ?_)) fun s1 => zp_ite (fun s2 => zp_some ?_) fun s2 => zp_ite (fun s3 => zp_some ?_) fun s3 => zp_ite (fun s4 => zp_chk fun _ => zp_chk fun _ => zp_some ?_) fun s4 => zp_bind (zp_mono p_X_closeOpen fun r c => zp_some ?_)) fun q => ?_
  · have := (zo_le (k := d) (j := 0) (by omega) (by omega)).mp q
    omega
  · refine ⟨by rw [zx_up_same, zu_eq], by rw [zx_up_same, zu_ne (by decide), c.2 8 (by decide) (by decide)], Or.inr ⟨by rw [s0]; decide, fun q a b e => by rw [zu_other e, c.1 q a b e], Or.inr ⟨by rw [s0]; decide, by rw [zx_up_same, zu_ne (by decide), c.2 12 (by decide) (by decide)]⟩⟩⟩
  · refine ⟨by rw [zx_up_same, zu_eq], by rw [zx_up_same, zu_ne (by decide), zx_up_same, zu_ne (by decide), em.2.2.2.2.2.2.2.2.1 8 (by decide) (by decide) (by decide)], Or.inl ⟨s1, ⟨_, r, em, fun q e => by rw [zu_other e, zu_other e]⟩, by rw [zx_up_same, zu_ne (by decide), zx_up_same, zu_ne (by decide), em.2.2.2.2.2.2.2.2.1 12 (by decide) (by decide) (by decide)]⟩⟩
  · refine ⟨by rw [zx_up_same, zu_eq], by rw [zx_up_same, zu_ne (by decide), zx_up_same, zu_ne (by decide)], Or.inr ⟨s1, fun q a b e => by rw [zu_other e, zu_other e], Or.inl ⟨s2, by rw [zx_up_same, zu_ne (by decide), zx_up_same, zu_eq]⟩⟩⟩
  · refine ⟨by rw [zx_up_same, zu_eq], by rw [zx_up_same, zu_ne (by decide), zx_up_same, zu_ne (by decide)], Or.inr ⟨s1, fun q a b e => by rw [zu_other e, zu_other e], Or.inr ⟨s2, by rw [zx_up_same, zu_ne (by decide), zx_up_same, zu_ne (by decide)]⟩⟩⟩
  · refine ⟨by rw [zx_up_same, zu_eq], by rw [zx_up_same, zu_ne (by decide), zx_up_same, zu_ne (by decide), zx_up_same, zu_ne (by decide)], Or.inr ⟨s1, fun q a b e => by rw [zu_other e, zu_other e, zu_other e], Or.inr ⟨s2, by rw [zx_up_same, zu_ne (by decide), zx_up_same, zu_ne (by decide), zx_up_same, zu_ne (by decide)]⟩⟩⟩
  · refine ⟨by rw [zx_up_same, zu_eq], by rw [zx_up_same, zu_ne (by decide), zx_up_same, zu_ne (by decide), c.2 8 (by decide) (by decide)], Or.inr ⟨s1, fun q a b e => by rw [zu_other e, zu_other e, c.1 q a b e], Or.inr ⟨s2, by rw [zx_up_same, zu_ne (by decide), zx_up_same, zu_ne (by decide), c.2 12 (by decide) (by decide)]⟩⟩⟩
  · exact absurd ((zo_le (k := d) (j := 8) (by omega) (by omega)).mpr hd.2) q
def WY (μ ν : zS) : Prop := (∀ q, q ≠ 82 → q ≠ 94 → q ≠ 95 → q ≠ 102 → ν q = μ q) ∧ (∀ i, i ≠ 37 → ν 82 i = μ 82 i)
theorem WY.tr {a b c : zS} (h : WY a b) (g : WY b c) : WY a c := ⟨fun q x y z w => (g.1 q x y z w).trans (h.1 q x y z w), fun i x => (g.2 i x).trans (h.2 i x)⟩
theorem LE0.wy {μ ν : zS} (h : LE0 μ ν) : WY μ ν := ⟨fun q a b c _ => h.1 q a b c, h.2⟩
theorem p_M_wayOf {μ : zS} {x y : Int32} : zp (zf_M_wayOf μ x y) (fun r => WY μ r.2 ∧ WY μ (zx_up r.2 82 37 r.1)) := by
  unfold zf_M_wayOf
  refine zp_chk fun _ => zp_some ⟨⟨fun q _ _ _ d => zu_other d, fun i _ => ?_⟩, ⟨fun q a _ _ d => ?_, fun i hi => ?_⟩⟩ <;> dsimp only
  · rw [zu_other (by decide)]
  · rw [zu_other a, zu_other d]
  · rw [zx_up_same, zu_ne hi, zu_other (by decide)]
theorem p_M_joinOpen {N : Nat} {μ : zS} {x : Int32} : zp (zf_M_joinOpen N μ x) (fun r => WY μ r) := by
  unfold zf_M_joinOpen
  have go : ∀ (n : Nat) (v : Int32), zp (zb_M_joinOpen_8 N n μ x v) (fun r => WY μ r) := by
    intro n
    induction n with
    | zero => intro _; exact zp_none
    | succ n ih =>
      intro v
      rw [zb_M_joinOpen_8]
      exact zp_chk fun _ => zp_ite (fun _ => zp_chk fun _ => zp_some ⟨fun q a _ _ d => by rw [zu_other a, zu_other d], fun i hi => by rw [zx_up_same, zu_ne hi, zu_other (by decide)]⟩) fun _ => zp_chk fun _ => ih _
  exact zp_ite (fun _ => go N x) fun _ => zp_some ⟨fun _ _ _ _ _ => rfl, fun _ _ => rfl⟩
theorem SM.wy {T : TS} {a : Nat} {μ ν : zS} (h : SM T a μ) (w : WY μ ν) : SM T a ν := h.of (w.1 84 (by decide) (by decide) (by decide) (by decide)) fun i hi => w.2 i (by omega)
def C7a (d : Nat) (μ s : zS) : Prop := (∀ q, q ≠ 82 → q ≠ 94 → q ≠ 95 → q ≠ 102 → s q = μ q) ∧ s 82 46 = Int32.ofNat (d - 1) ∧ (∀ i, i ≠ 5 → i ≠ 6 → i ≠ 7 → i ≠ 8 → i ≠ 37 → i ≠ 46 → s 82 i = μ 82 i)
def C7b (d : Nat) (μ s : zS) : Prop := (∀ q, q ≠ 82 → q ≠ 94 → q ≠ 95 → q ≠ 102 → q ≠ 103 → q ≠ 104 → q ≠ 105 → q ≠ 106 → s q = μ q) ∧ s 82 46 = Int32.ofNat d ∧ (∀ i, i ≠ 5 → i ≠ 6 → i ≠ 7 → i ≠ 8 → i ≠ 37 → i ≠ 46 → s 82 i = μ 82 i) ∧ s 103 (d - 1) = 4 ∧ (∀ j, j ≠ d - 1 → s 103 j = μ 103 j)
theorem p_M_177 {T : TS} {a N d : Nat} {μ : zS} (sm : SM T a μ) (hk : T.1 a = 125) (h46 : μ 82 46 = Int32.ofNat d) (hd : 0 < d ∧ d ≤ 8) : zp (zb_M_closeBlock_177 N μ (Int32.ofNat (d - 1))) (fun s => ((μ 103 (d - 1) ≠ 3 ∨ T.1 (a + 1) ≠ 305) ∧ SM T (a + 1) s ∧ C7a d μ s) ∨ (μ 103 (d - 1) = 3 ∧ T.1 (a + 1) = 305 ∧ ((T.1 (a + 2) ≠ 123 ∧ MFl s (T.2.1 (a + 2))) ∨ (T.1 (a + 2) = 123 ∧ SM T (a + 3) s ∧ C7b d μ s)))) := by
  have kk : ¬ T.1 a = 0 ∧ ¬ T.1 a = 1 := by rw [hk]; decide
  unfold zb_M_closeBlock_177
  rw [h46, zo_pred hd.1 (by omega), zo_n (by omega)]
  have sm0 : SM T a (zx_up μ 82 46 (Int32.ofNat (d - 1))) := sm.of (zu_other (by decide)) fun i hi => by rw [zx_up_same, zu_ne (by omega)]
  refine zp_bind (zp_mono (sm0.nx kk) ?_)
  rintro r7 ⟨s7, f7⟩
  have g7 : ∀ q, q ≠ 82 → r7 q = μ q := fun q hq => by rw [f7.1 q hq, zu_other hq]
  have i7 : ∀ i, i ≠ 5 → i ≠ 6 → i ≠ 7 → i ≠ 8 → i ≠ 46 → r7 82 i = μ 82 i := fun i a b c d e => by rw [f7.2 i a b c d, zx_up_same, zu_ne e]
  have d7 : r7 82 46 = Int32.ofNat (d - 1) := by rw [f7.2 46 (by decide) (by decide) (by decide) (by decide), zx_up_same, zu_eq]
  have c7 : ∀ s, WY r7 s → C7a d μ s := fun s w => ⟨fun q a b c e => by rw [w.1 q a b c e, g7 q a], by rw [w.2 46 (by decide)]; exact d7, fun i a b c d e f => by rw [w.2 i e, i7 i a b c d f]⟩
  rw [g7 103 (by decide)]
  refine zp_chk fun _ => zp_ite (fun z => zp_some (Or.inl ⟨Or.inl z, s7, c7 r7 ⟨fun _ _ _ _ _ => rfl, fun _ _ => rfl⟩⟩)) fun z => zp_bind (zp_mono (p_M_isWord s7.d (c := 6) (by decide)) fun r10 h10 => zp_ite (fun y => zp_chk fun _ => zp_bind (zp_mono p_M_wayOf fun r13 h13 => zp_bind (zp_mono p_M_joinOpen fun r14 h14 => zp_some (Or.inl ⟨Or.inr ?_, ?_, c7 r14 (h13.1.tr h14)⟩)))) fun y => ?_)
  · rcases h10 with h | h
    · exact h.2
    · rw [h.1] at y; exact absurd y (by decide)
  · exact s7.wy (h13.1.tr h14)
  · have k5 : T.1 (a + 1) = 305 := by
      rcases h10 with h | h
      · exact absurd h.1 y
      · exact h.2
    refine zp_bind (zp_mono (s7.nx (by rw [k5]; decide)) ?_)
    rintro r15 ⟨s15, f15⟩
    refine zp_chk fun _ => zp_bind (zp_mono p_M_wayOf fun r17 h17 => zp_chk fun _ => ?_)
    have smw := s15.wy h17.2
    have dw : (zx_up r17.2 82 37 r17.1) 82 46 = Int32.ofNat (d - 1) := by rw [h17.2.2 46 (by decide), f15.2 46 (by decide) (by decide) (by decide) (by decide)]; exact d7
    unfold zf_M_openBlock
    have d8 : ¬ (zx_up r17.2 82 37 r17.1) 82 46 = 8 := by
      rw [dw]
      intro q
      have := zo_inj (k := d - 1) (j := 8) (by omega) (by omega) q
      omega
    refine zp_bind (zp_ite (fun _ => zp_bind (zp_mono (p_M_isSign smw.d (c := 123) (by decide)) fun u hu => zp_ite (fun x => zp_ite (fun _ => ?_) fun q => absurd d8 q) fun x => ?_)) fun q => absurd smw.2.2.2 q)
    · have k3 : T.1 (a + 2) = 123 := by
        rcases hu with h | h
        · exact absurd h.1 x
        · exact h.2
      refine zp_bind (zp_mono (smw.nx (by rw [k3]; decide)) ?_)
      rintro r5 ⟨s5, f5⟩
      have e46 : r5 82 46 = Int32.ofNat (d - 1) := by rw [f5.2 46 (by decide) (by decide) (by decide) (by decide)]; exact dw
      rw [e46, zo_n (by omega), zo_1 (by omega), show d - 1 + 1 = d by omega]
      refine zp_chk fun _ => zp_chk fun _ => zp_chk fun _ => zp_some (zp_chk fun _ => zp_some (Or.inr ⟨Classical.not_not.mp z, k5, Or.inr ⟨k3, s5.of ?_ fun i hi => ?_, fun q a1 a2 a3 a4 a5 a6 a7 a8 => ?_, ?_, fun i b1 b2 b3 b4 b5 b6 => ?_, ?_, fun j hj => ?_⟩⟩))
      · iterate 5 rw [zu_other (by decide)]
      · rw [zu_other (by decide), zx_up_same, zu_ne (by omega)]
        iterate 3 rw [zu_other (by decide)]
      · rw [zu_other a7, zu_other a1, zu_other a8, zu_other a6, zu_other a5, f5.1 q a1, h17.2.1 q a1 a2 a3 a4, f15.1 q a1, g7 q a1]
      · rw [zu_other (by decide), zx_up_same, zu_eq]
      · rw [zu_other (by decide), zx_up_same, zu_ne b6]
        iterate 3 rw [zu_other (by decide)]
        rw [f5.2 i b1 b2 b3 b4, h17.2.2 i b5, f15.2 i b1 b2 b3 b4, i7 i b1 b2 b3 b4 b6]
      · iterate 4 rw [zu_other (by decide)]
        rw [zx_up_same, zu_eq]
      · iterate 4 rw [zu_other (by decide)]
        rw [zx_up_same, zu_ne hj, f5.1 103 (by decide), h17.2.1 103 (by decide) (by decide) (by decide) (by decide), f15.1 103 (by decide), g7 103 (by decide)]
    · have k3 : T.1 (a + 2) ≠ 123 := by
        rcases hu with h | h
        · exact h.2
        · exact absurd (by rw [h.1]; decide) x
      refine zp_bind (zp_mono (p_M_cannot smw.2.2.2) fun s hs => zp_some (zp_chk fun _ => zp_some (Or.inr ⟨Classical.not_not.mp z, k5, Or.inl ⟨k3, ?_⟩⟩)))
      rw [smw.p] at hs
      exact hs.up (by decide)
