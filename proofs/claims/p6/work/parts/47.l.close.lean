-- both answer alike
set_option maxRecDepth 2000
theorem p_X_finish {N : Nat} {ρ : zS} : zp (zf_Weaver_finishThread N ρ) (fun r => CO0 ρ r) := by
  unfold zf_Weaver_finishThread
  refine zp_bind fun r1 _ => zp_bind (zp_mono p_X_closeOpen fun r2 c => ?_)
  have go : ∀ (n : Nat) (r : zS) (v : Int32), CO0 ρ r → zp (zb_Weaver_finishThread_19 N n r r1 v) (fun r => CO0 ρ r) := by
    intro n
    induction n with
    | zero => intro _ _ _; exact zp_none
    | succ n ih =>
      intro r v h
      have A : ∀ r', CO0 ρ r' → zp (zb_Weaver_finishThread_67 (zb_Weaver_finishThread_19 N n) N r' r1 v) (fun r => CO0 ρ r) := fun r' h' => by
        unfold zb_Weaver_finishThread_67; exact ih r' (v + 1) h'
      rw [zb_Weaver_finishThread_19]
      refine zp_ite (fun _ => zp_some h) fun _ => zp_ite (fun _ => zp_some h) fun _ => zp_bind fun r5 _ => zp_chk fun _ => zp_ite (fun _ => A r h) fun _ => zp_chk fun _ => A _ ⟨fun q a b c => by rw [zu_other a]; exact h.1 q a b c, fun j a b => by rw [zu_other (by decide)]; exact h.2 j a b⟩
  exact go N r2 0 c
def LV (d t L : Nat) (ρ r : zS) : Prop :=
  r 29 6 = Int32.ofNat (d - 1) ∧ r 29 8 = ρ 29 8 ∧
  ((ρ 30 (d - 1) = 1 ∧ (∃ m r', EM t L 4 m ρ r' ∧ (∀ q, q ≠ 29 → r q = r' q)) ∧ r 29 12 = ρ 29 12) ∨
   (ρ 30 (d - 1) ≠ 1 ∧ (∀ q, q ≠ 9 → q ≠ 10 → q ≠ 29 → r q = ρ q) ∧ ((ρ 30 (d - 1) = 2 ∧ r 29 12 = -1) ∨ (ρ 30 (d - 1) ≠ 2 ∧ r 29 12 = ρ 29 12))))
theorem p_X_leave {N d t L : Nat} {ρ : zS} (h6 : ρ 29 6 = Int32.ofNat d) (hd : 0 < d ∧ d ≤ 8) (h8 : ρ 29 8 = Int32.ofNat t) (ht : t < 4) (h5 : ρ 5 t = Int32.ofNat L) (hL : ρ 30 (d - 1) = 1 → L < 24) : zp (zf_Weaver_leave N ρ) (fun r => LV d t L ρ r) := by
  unfold zf_Weaver_leave zb_Weaver_leave_166
  rw [h6, zo_pred hd.1 (by omega), zo_n (by omega)]
  refine zp_ite (fun q => ?_) fun _ => zp_ite (fun _ => zp_chk fun _ => zp_chk fun _ => zp_ite (fun s0 => zp_bind (zp_mono p_X_finish fun r c => zp_some ?_)) fun s0 => zp_ite (fun s1 => zp_bind (zp_mono (p_X_emit h8 ht h5 (hL s1)) fun r em => zp_chk fun _ => zp_some ?_)) fun s1 => zp_ite (fun s2 => zp_some ?_) fun s2 => zp_ite (fun s3 => zp_some ?_) fun s3 => zp_ite (fun s4 => zp_chk fun _ => zp_chk fun _ => zp_some ?_) fun s4 => zp_bind (zp_mono p_X_closeOpen fun r c => zp_some ?_)) fun q => ?_
  · have := (zo_le (k := d) (j := 0) (by omega) (by omega)).mp q
    omega
  · refine ⟨by rw [zx_up_same, zu_eq], by rw [zx_up_same, zu_ne (by decide), c.2 8 (by decide) (by decide)], Or.inr ⟨by rw [s0]; decide, fun q a b e => by rw [zu_other e, c.1 q a b e], Or.inr ⟨by rw [s0]; decide, by rw [zx_up_same, zu_ne (by decide), c.2 12 (by decide) (by decide)]⟩⟩⟩
  · refine ⟨by rw [zx_up_same, zu_eq], by rw [zx_up_same, zu_ne (by decide), zx_up_same, zu_ne (by decide), em.2.2.2.2.2.2.2.2 8 (by decide) (by decide) (by decide)], Or.inl ⟨s1, ⟨_, r, em, fun q e => by rw [zu_other e, zu_other e]⟩, by rw [zx_up_same, zu_ne (by decide), zx_up_same, zu_ne (by decide), em.2.2.2.2.2.2.2.2 12 (by decide) (by decide) (by decide)]⟩⟩
  · refine ⟨by rw [zx_up_same, zu_eq], by rw [zx_up_same, zu_ne (by decide), zx_up_same, zu_ne (by decide)], Or.inr ⟨s1, fun q a b e => by rw [zu_other e, zu_other e], Or.inl ⟨s2, by rw [zx_up_same, zu_ne (by decide), zx_up_same, zu_eq]⟩⟩⟩
  · refine ⟨by rw [zx_up_same, zu_eq], by rw [zx_up_same, zu_ne (by decide), zx_up_same, zu_ne (by decide)], Or.inr ⟨s1, fun q a b e => by rw [zu_other e, zu_other e], Or.inr ⟨s2, by rw [zx_up_same, zu_ne (by decide), zx_up_same, zu_ne (by decide)]⟩⟩⟩
  · refine ⟨by rw [zx_up_same, zu_eq], by rw [zx_up_same, zu_ne (by decide), zx_up_same, zu_ne (by decide), zx_up_same, zu_ne (by decide)], Or.inr ⟨s1, fun q a b e => by rw [zu_other e, zu_other e, zu_other e], Or.inr ⟨s2, by rw [zx_up_same, zu_ne (by decide), zx_up_same, zu_ne (by decide), zx_up_same, zu_ne (by decide)]⟩⟩⟩
  · refine ⟨by rw [zx_up_same, zu_eq], by rw [zx_up_same, zu_ne (by decide), zx_up_same, zu_ne (by decide), c.2 8 (by decide) (by decide)], Or.inr ⟨s1, fun q a b e => by rw [zu_other e, zu_other e, c.1 q a b e], Or.inr ⟨s2, by rw [zx_up_same, zu_ne (by decide), zx_up_same, zu_ne (by decide), c.2 12 (by decide) (by decide)]⟩⟩⟩
  · exact absurd ((zo_le (k := d) (j := 8) (by omega) (by omega)).mpr hd.2) q
def WY (μ ν : zS) : Prop := (∀ q, q ≠ 82 → q ≠ 94 → q ≠ 95 → q ≠ 102 → ν q = μ q) ∧ (∀ i, i ≠ 37 → ν 82 i = μ 82 i)
theorem WY.tr {a b c : zS} (h : WY a b) (g : WY b c) : WY a c := ⟨fun q x y z w => (g.1 q x y z w).trans (h.1 q x y z w), fun i x => (g.2 i x).trans (h.2 i x)⟩
theorem LE0.wy {μ ν : zS} (h : LE0 μ ν) : WY μ ν := ⟨fun q a b c _ => h.1 q a b c, h.2⟩
theorem p_M_wayOf {μ : zS} {x y : Int32} : zp (zf_M_wayOf μ x y) (fun r => WY μ r.2 ∧ WY μ (zx_up r.2 82 37 r.1)) := by
  unfold zf_M_wayOf
  refine zp_chk fun _ => zp_some ⟨⟨fun q _ _ _ d => zu_other d, fun i _ => ?_⟩, ⟨fun q a _ _ d => ?_, fun i hi => ?_⟩⟩ <;> dsimp only
  · rw [zu_other (by decide)]
  · rw [zu_other a, zu_other d]
  · rw [zx_up_same, zu_ne hi, zu_other (by decide)]
theorem p_M_joinOpen {N : Nat} {μ : zS} {x : Int32} : zp (zf_M_joinOpen N μ x) (fun r => WY μ r) := by
  unfold zf_M_joinOpen
  have go : ∀ (n : Nat) (v : Int32), zp (zb_M_joinOpen_8 N n μ x v) (fun r => WY μ r) := by
    intro n
    induction n with
    | zero => intro _; exact zp_none
    | succ n ih =>
      intro v
      rw [zb_M_joinOpen_8]
      exact zp_chk fun _ => zp_ite (fun _ => zp_chk fun _ => zp_some ⟨fun q a _ _ d => by rw [zu_other a, zu_other d], fun i hi => by rw [zx_up_same, zu_ne hi, zu_other (by decide)]⟩) fun _ => zp_chk fun _ => ih _
  exact zp_ite (fun _ => go N x) fun _ => zp_some ⟨fun _ _ _ _ _ => rfl, fun _ _ => rfl⟩
theorem SM.wy {T : TS} {a : Nat} {μ ν : zS} (h : SM T a μ) (w : WY μ ν) : SM T a ν := h.of (w.1 84 (by decide) (by decide) (by decide) (by decide)) fun i hi => w.2 i (by omega)
def C7a (d : Nat) (μ s : zS) : Prop := (∀ q, q ≠ 82 → q ≠ 94 → q ≠ 95 → q ≠ 102 → s q = μ q) ∧ s 82 46 = Int32.ofNat (d - 1) ∧ (∀ i, i ≠ 5 → i ≠ 6 → i ≠ 7 → i ≠ 8 → i ≠ 37 → i ≠ 46 → s 82 i = μ 82 i)
def C7b (d : Nat) (μ s : zS) : Prop := (∀ q, q ≠ 82 → q ≠ 94 → q ≠ 95 → q ≠ 102 → q ≠ 103 → q ≠ 104 → q ≠ 105 → q ≠ 106 → s q = μ q) ∧ s 82 46 = Int32.ofNat d ∧ (∀ i, i ≠ 5 → i ≠ 6 → i ≠ 7 → i ≠ 8 → i ≠ 37 → i ≠ 46 → s 82 i = μ 82 i) ∧ s 103 (d - 1) = 4 ∧ (∀ j, j ≠ d - 1 → s 103 j = μ 103 j)
theorem p_M_177 {T : TS} {a N d : Nat} {μ : zS} (sm : SM T a μ) (hk : T.1 a = 125) (h46 : μ 82 46 = Int32.ofNat d) (hd : 0 < d ∧ d ≤ 8) : zp (zb_M_closeBlock_177 N μ (Int32.ofNat (d - 1))) (fun s => ((μ 103 (d - 1) ≠ 3 ∨ T.1 (a + 1) ≠ 305) ∧ SM T (a + 1) s ∧ C7a d μ s) ∨ (μ 103 (d - 1) = 3 ∧ T.1 (a + 1) = 305 ∧ ((T.1 (a + 2) ≠ 123 ∧ MFl s (T.2.1 (a + 2))) ∨ (T.1 (a + 2) = 123 ∧ SM T (a + 3) s ∧ C7b d μ s)))) := by
  have kk : ¬ T.1 a = 0 ∧ ¬ T.1 a = 1 := by rw [hk]; decide
  unfold zb_M_closeBlock_177
  rw [h46, zo_pred hd.1 (by omega), zo_n (by omega)]
  have sm0 : SM T a (zx_up μ 82 46 (Int32.ofNat (d - 1))) := sm.of (zu_other (by decide)) fun i hi => by rw [zx_up_same, zu_ne (by omega)]
  refine zp_bind (zp_mono (sm0.nx kk) ?_)
  rintro r7 ⟨s7, f7⟩
  have g7 : ∀ q, q ≠ 82 → r7 q = μ q := fun q hq => by rw [f7.1 q hq, zu_other hq]
  have i7 : ∀ i, i ≠ 5 → i ≠ 6 → i ≠ 7 → i ≠ 8 → i ≠ 46 → r7 82 i = μ 82 i := fun i a b c d e => by rw [f7.2 i a b c d, zx_up_same, zu_ne e]
  have d7 : r7 82 46 = Int32.ofNat (d - 1) := by rw [f7.2 46 (by decide) (by decide) (by decide) (by decide), zx_up_same, zu_eq]
  have c7 : ∀ s, WY r7 s → C7a d μ s := fun s w => ⟨fun q a b c e => by rw [w.1 q a b c e, g7 q a], by rw [w.2 46 (by decide)]; exact d7, fun i a b c d e f => by rw [w.2 i e, i7 i a b c d f]⟩
  rw [g7 103 (by decide)]
  refine zp_chk fun _ => zp_ite (fun z => zp_some (Or.inl ⟨Or.inl z, s7, c7 r7 ⟨fun _ _ _ _ _ => rfl, fun _ _ => rfl⟩⟩)) fun z => zp_bind (zp_mono (p_M_isWord s7.d (c := 6) (by decide)) fun r10 h10 => zp_ite (fun y => zp_chk fun _ => zp_bind (zp_mono p_M_wayOf fun r13 h13 => zp_bind (zp_mono p_M_joinOpen fun r14 h14 => zp_some (Or.inl ⟨Or.inr ?_, ?_, c7 r14 (h13.1.tr h14)⟩)))) fun y => ?_)
  · rcases h10 with h | h
    · exact h.2
    · rw [h.1] at y; exact absurd y (by decide)
  · exact s7.wy (h13.1.tr h14)
  · have k5 : T.1 (a + 1) = 305 := by
      rcases h10 with h | h
      · exact absurd h.1 y
      · exact h.2
    refine zp_bind (zp_mono (s7.nx (by rw [k5]; decide)) ?_)
    rintro r15 ⟨s15, f15⟩
    refine zp_chk fun _ => zp_bind (zp_mono p_M_wayOf fun r17 h17 => zp_chk fun _ => ?_)
    have smw := s15.wy h17.2
    have dw : (zx_up r17.2 82 37 r17.1) 82 46 = Int32.ofNat (d - 1) := by rw [h17.2.2 46 (by decide), f15.2 46 (by decide) (by decide) (by decide) (by decide)]; exact d7
    unfold zf_M_openBlock
    have d8 : ¬ (zx_up r17.2 82 37 r17.1) 82 46 = 8 := by
      rw [dw]
      intro q
      have := zo_inj (k := d - 1) (j := 8) (by omega) (by omega) q
      omega
    refine zp_bind (zp_ite (fun _ => zp_bind (zp_mono (p_M_isSign smw.d (c := 123) (by decide)) fun u hu => zp_ite (fun x => zp_ite (fun _ => ?_) fun q => absurd d8 q) fun x => ?_)) fun q => absurd smw.2.2.2 q)
    · have k3 : T.1 (a + 2) = 123 := by
        rcases hu with h | h
        · exact absurd h.1 x
        · exact h.2
      refine zp_bind (zp_mono (smw.nx (by rw [k3]; decide)) ?_)
      rintro r5 ⟨s5, f5⟩
      have e46 : r5 82 46 = Int32.ofNat (d - 1) := by rw [f5.2 46 (by decide) (by decide) (by decide) (by decide)]; exact dw
      rw [e46, zo_n (by omega), zo_1 (by omega), show d - 1 + 1 = d by omega]
      refine zp_chk fun _ => zp_chk fun _ => zp_chk fun _ => zp_some (zp_chk fun _ => zp_some (Or.inr ⟨Classical.not_not.mp z, k5, Or.inr ⟨k3, s5.of ?_ fun i hi => ?_, fun q a1 a2 a3 a4 a5 a6 a7 a8 => ?_, ?_, fun i b1 b2 b3 b4 b5 b6 => ?_, ?_, fun j hj => ?_⟩⟩))
      · iterate 5 rw [zu_other (by decide)]
      · rw [zu_other (by decide), zx_up_same, zu_ne (by omega)]
        iterate 3 rw [zu_other (by decide)]
      · rw [zu_other a7, zu_other a1, zu_other a8, zu_other a6, zu_other a5, f5.1 q a1, h17.2.1 q a1 a2 a3 a4, f15.1 q a1, g7 q a1]
      · rw [zu_other (by decide), zx_up_same, zu_eq]
      · rw [zu_other (by decide), zx_up_same, zu_ne b6]
        iterate 3 rw [zu_other (by decide)]
        rw [f5.2 i b1 b2 b3 b4, h17.2.2 i b5, f15.2 i b1 b2 b3 b4, i7 i b1 b2 b3 b4 b6]
      · iterate 4 rw [zu_other (by decide)]
        rw [zx_up_same, zu_eq]
      · iterate 4 rw [zu_other (by decide)]
        rw [zx_up_same, zu_ne hj, f5.1 103 (by decide), h17.2.1 103 (by decide) (by decide) (by decide) (by decide), f15.1 103 (by decide), g7 103 (by decide)]
    · have k3 : T.1 (a + 2) ≠ 123 := by
        rcases hu with h | h
        · exact h.2
        · exact absurd (by rw [h.1]; decide) x
      refine zp_bind (zp_mono (p_M_cannot smw.2.2.2) fun s hs => zp_some (zp_chk fun _ => zp_some (Or.inr ⟨Classical.not_not.mp z, k5, Or.inl ⟨k3, ?_⟩⟩)))
      rw [smw.p] at hs
      exact hs.up (by decide)
theorem NSM.c7 {c : Nat → Nat} {ws : Nat → Nat → Int64} {nv : Nat} {wv : Nat → Int64} {μ ν : zS} (h : NSM c ws nv wv μ) (f : ∀ q, q ≠ 82 → q ≠ 94 → q ≠ 95 → q ≠ 102 → q ≠ 103 → q ≠ 104 → q ≠ 105 → q ≠ 106 → ν q = μ q) (g : ∀ i, i ≠ 5 → i ≠ 6 → i ≠ 7 → i ≠ 8 → i ≠ 37 → i ≠ 46 → ν 82 i = μ 82 i) : NSM c ws nv wv ν :=
  h.of (fun i hi => g i (by omega) (by omega) (by omega) (by omega) (by omega) (by omega)) (fun p _ => by rw [f 86 (by decide) (by decide) (by decide) (by decide) (by decide) (by decide) (by decide) (by decide)]) (fun p _ => by rw [f 85 (by decide) (by decide) (by decide) (by decide) (by decide) (by decide) (by decide) (by decide)])
theorem LAT.c7 {c : Nat → Nat} {ws : Nat → Nat → Int64} {len : Nat → Nat} {ρ r μ ν : zS} {τ υ : zT} (h : LAT c ws len ρ τ μ) (e24 : r 24 = ρ 24) (e23 : υ 23 = τ 23) (f : ∀ q, q ≠ 82 → q ≠ 94 → q ≠ 95 → q ≠ 102 → q ≠ 103 → q ≠ 104 → q ≠ 105 → q ≠ 106 → ν q = μ q) (g : ∀ i, i ≠ 5 → i ≠ 6 → i ≠ 7 → i ≠ 8 → i ≠ 37 → i ≠ 46 → ν 82 i = μ 82 i) : LAT c ws len r υ ν := by
  have n : ∀ q, q = 85 ∨ q = 86 ∨ q = 87 ∨ q = 92 ∨ q = 93 → ν q = μ q := fun q hq => f q (by omega) (by omega) (by omega) (by omega) (by omega) (by omega) (by omega) (by omega)
  exact h.of e24 e23 (g 19 (by decide) (by decide) (by decide) (by decide) (by decide) (by decide)) (n 87 (by decide)) (n 92 (by decide)) (n 93 (by decide)) (fun p _ => by rw [n 86 (by decide)]) (fun p _ => by rw [n 85 (by decide)])
theorem MEx.to {t L : Nat} {k : Int32} {μ ν ν' : zS} (h : MEx t L k μ ν) (g : ∀ q, q = 85 ∨ q = 86 ∨ q = 87 ∨ q = 90 ∨ q = 92 ∨ q = 93 ∨ q = 103 → ν' q = ν q) (g2 : ∀ i, i = 17 ∨ i = 19 ∨ i = 25 ∨ i = 39 ∨ i = 41 ∨ i = 46 → ν' 82 i = ν 82 i) : MEx t L k μ ν' := by
  unfold MEx at *
  rw [g 85 (by decide), g 86 (by decide), g 87 (by decide), g 90 (by decide), g 92 (by decide), g 93 (by decide), g 103 (by decide)]
  exact ⟨h.1, fun i hi => (g2 i hi).trans (h.2.1 i hi), h.2.2⟩
theorem PKW.dep {c len : Nat → Nat} {d d' : Nat} {ρ μ r ν : zS} (h : PKW c len d ρ μ) (hd : 0 < d) (d8 : d' ≤ 8) (g : ∀ q, q = 4 ∨ q = 5 ∨ q = 7 → r q = ρ q) (e6 : r 29 6 = Int32.ofNat d') (e8 : r 29 8 = ρ 29 8) (e12 : r 29 12 = ν 82 41) (gm : ∀ q, q = 90 ∨ q = 92 → ν q = μ q) (g2 : ∀ i, i = 25 ∨ i = 39 → ν 82 i = μ 82 i) (e46 : ν 82 46 = Int32.ofNat d') (bl : ∀ i, i < d' → r 30 i = ν 103 i) : PKW c len d' r ν := by
  obtain ⟨p1, p2, p3, p4, p5, p6, p7⟩ := h
  obtain ⟨q1, q2, q3, q4, q5, q6⟩ := p6 hd
  refine ⟨fun t ht => by rw [g 5 (by decide), gm 90 (by decide)]; exact p1 t ht, fun t a b => by rw [g 5 (by decide)]; exact p2 t a b, by rw [g 4 (by decide)]; exact p3, by rw [g 4 (by decide), g2 25 (by decide)]; exact p4, ⟨d8, e6⟩, fun _ => ⟨q1, e8.trans q2, (g2 39 (by decide)).trans q3, e12, e46, bl⟩, fun t s ht hs => by rw [g 7 (by decide), gm 92 (by decide)]; exact p7 t s ht hs⟩
theorem s_close {T : TS} {a N N' : Nat} {c : Nat → Nat} {ws : Nat → Nat → Int64} {nv : Nat} {wv : Nat → Int64} {len : Nat → Nat} {d : Nat} {ρ : zS} {τ : zT} {μ : zS} (rl : RLX T a c ws nv wv len d ρ τ μ) (hd : 0 < d) (hk : T.1 a = 125) : zp (zf_Reader_closeBlock N ρ τ) (fun r => zp (zf_M_closeBlock N' μ) (fun s => OUT T a c ws r.1 r.2 s)) := by
  obtain ⟨t4, h8, h5, hL, h39, h90⟩ := rl.th hd
  obtain ⟨sx, sm, ns, nm, pk, la⟩ := rl
  have kk : ¬ T.1 a = 0 ∧ ¬ T.1 a = 1 := by rw [hk]; decide
  obtain ⟨q1, q2, q3, q4, h46, q6⟩ := pk.2.2.2.2.2.1 hd
  have d8 := pk.2.2.2.2.1.1
  have h6 := pk.2.2.2.2.1.2
  have c4 := ns.1.c2
  have hb : ρ 30 (d - 1) = μ 103 (d - 1) := q6 (d - 1) (by omega)
  have inn : zp (zf_Weaver_innermost ρ) (fun r => r = ρ 30 (d - 1)) := by
    unfold zf_Weaver_innermost
    rw [h6, zo_pred hd (by omega), zo_n (by omega)]
    refine zp_ite (fun q => ?_) fun _ => zp_ite (fun q => ?_) fun _ => zp_chk fun _ => zp_some rfl
    · have := (zo_le (k := d) (j := 0) (by omega) (by omega)).mp q
      omega
    · have := (zo_lt (k := 8) (j := d) (by omega) (by omega)).mp q
      omega
  have refOther : μ 103 (d - 1) ≠ 1 → ∀ {Q : zS → Prop}, (∀ μ', WY μ μ' → (μ 103 (d - 1) ≠ 2) → zp (zb_M_closeBlock_177 N' μ' (Int32.ofNat (d - 1))) Q) → (μ 103 (d - 1) = 2 → zp (zb_M_closeBlock_177 N' (zx_up μ 82 41 (-1)) (Int32.ofNat (d - 1))) Q) → zp (zf_M_closeBlock N' μ) Q := by
    intro n1 Q k1 k2
    unfold zf_M_closeBlock
    rw [h46, zo_pred hd (by omega), zo_n (m := d - 1) (by omega)]
    have id' : WY μ μ := ⟨fun _ _ _ _ _ => rfl, fun _ _ => rfl⟩
    refine zp_chk fun _ => zp_ite (fun q => absurd q n1) fun _ => zp_ite (fun q => k2 q) fun n2 => zp_ite (fun _ => k1 μ id' n2) fun _ => zp_ite (fun _ => zp_chk fun _ => zp_bind (zp_mono p_M_joinOpen fun r hr => k1 r hr n2)) fun _ => zp_ite (fun _ => zp_chk fun _ => zp_bind (zp_mono p_M_lead0 fun r22 h22 => zp_chk fun _ => zp_bind (zp_mono p_M_wayOf fun r24 h24 => k1 _ (h22.wy.tr h24.2) n2))) fun _ => k1 μ id' n2
  have refLock : μ 103 (d - 1) = 1 → ∀ {Q : zS → Prop}, (len (c 2 - 1) = 24 → ∀ s, MFl s (T.2.1 a) → Q s) → (len (c 2 - 1) < 24 → ∀ (μ' : zS) (x : Int32), ADS (c 2 - 1) (len (c 2 - 1)) 4 x μ μ' → ∀ y, zp (zb_M_closeBlock_177 N' (zx_up μ' 82 40 y) (Int32.ofNat (d - 1))) Q) → zp (zf_M_closeBlock N' μ) Q := by
    intro e1 Q k1 k2
    unfold zf_M_closeBlock
    rw [h46, zo_pred hd (by omega), zo_n (m := d - 1) (by omega)]
    refine zp_chk fun _ => zp_ite (fun _ => zp_chk fun _ => zp_chk fun _ => zp_bind (zp_mono (p_M_addStep h39 t4 h90 hL sm.2.2.2) fun r29 h29 => ?_)) fun q => absurd e1 q
    rcases h29 with ⟨l, _, fl⟩ | ⟨l, _, as⟩
    · rw [sm.p] at fl
      exact zp_ite (fun q => absurd q fl.1) fun _ => zp_some (k1 l _ fl)
    · exact zp_ite (fun _ => zp_chk fun _ => zp_chk fun _ => zp_chk fun _ => zp_chk fun _ => zp_chk fun _ => k2 l _ _ as _) fun q => absurd (by rw [as.2.1 9 (by decide)]; exact sm.2.2.2) q
  have main : (ρ 30 (d - 1) = 1 → len (c 2 - 1) < 24) → zp (zb_Reader_closeBlock_21 N ρ τ (ρ 30 (d - 1))) (fun r => zp (zf_M_closeBlock N' μ) (fun s => OUT T a c ws r.1 r.2 s)) := by
    intro room
    unfold zb_Reader_closeBlock_21
    refine zp_bind (zp_mono (X.tk sm.1 sx ns kk) ?_)
    rintro r3 ⟨x1, x2, x3, x4, x5, x6⟩
    have r29 : r3.1 29 = ρ 29 := x3.1 29 (by decide)
    have r30 : r3.1 30 = ρ 30 := x3.1 30 (by decide)
    have lv : (ρ 30 (d - 1) ≠ 3 ∨ T.1 (a + 1) ≠ 305) → zp (zb_Reader_closeBlock_70 N r3.1 r3.2) (fun r => zp (zf_M_closeBlock N' μ) (fun s => OUT T a c ws r.1 r.2 s)) := by
      intro hno
      unfold zb_Reader_closeBlock_70
      refine zp_bind (zp_mono (p_X_leave (d := d) (t := c 2 - 1) (L := len (c 2 - 1)) (by rw [r29]; exact h6) ⟨hd, d8⟩ (by rw [r29]; exact h8) t4 (by rw [x3.1 5 (by decide)]; exact h5) (by rw [r30]; exact room)) fun r5 lv => zp_some ?_)
      obtain ⟨l1, l2, l3⟩ := lv
      rw [r30] at l3
      rcases l3 with ⟨e1, ⟨m, r', em, fr⟩, l12⟩ | ⟨n1, fr, l12⟩
      ·
        have hl := room e1
        refine refLock (hb ▸ e1) (fun l' => by omega) fun _ μ' x as y => ?_
        have f' : ∀ q, q = 17 ∨ q = 18 ∨ q = 20 ∨ q = 21 ∨ q = 24 ∨ q = 25 ∨ q = 26 ∨ q = 27 → r5 q = r3.1 q := fun q hq => by rw [fr q (by omega), em.1 q (by omega) (by omega) (by omega) (by omega) (by omega) (by omega) (by omega) (by omega) (by omega)]
        have gg : ∀ q, q ≠ 82 → (zx_up μ' 82 40 y) q = μ' q := fun q hq => zu_other hq
        have as' : ∀ q, q = 84 ∨ q = 85 ∨ q = 86 ∨ q = 103 → μ' q = μ q := fun q hq => as.1 q (by omega) (by omega) (by omega) (by omega) (by omega) (by omega) (by omega) (by omega) (by omega)
        have g82 : ∀ i, i ≠ 40 → i ≠ 37 → (zx_up μ' 82 40 y) 82 i = μ 82 i := fun i a b => by rw [zx_up_same, zu_ne a, as.2.1 i b]
        have sm1 : SM T a (zx_up μ' 82 40 y) := sm.of (by rw [gg 84 (by decide), as' 84 (by decide)]) fun i hi => g82 i (by omega) (by omega)
        have nm1 : NSM c ws nv wv (zx_up μ' 82 40 y) := nm.of (fun i hi => g82 i (by omega) (by omega)) (fun p _ => by rw [gg 86 (by decide), as' 86 (by decide)]) (fun p _ => by rw [gg 85 (by decide), as' 85 (by decide)])
        have me : MEx (c 2 - 1) (len (c 2 - 1)) 4 μ (zx_up μ' 82 40 y) := (MEx.of as).to (fun q hq => gg q (by omega)) (fun i hi => by rw [zx_up_same, zu_ne (by omega)])
        have ce : CEx (c 2 - 1) (len (c 2 - 1)) 4 ρ r' := CEx.of x4 em
        have pk1 := pk.step hd rfl rfl hl c4 ce me
        have la1 := la.step pk rfl rfl ce me (x5 23 (by decide) (by decide)) (by decide)
        refine zp_mono (p_M_177 sm1 hk (by rw [g82 46 (by decide) (by decide)]; exact h46) ⟨hd, d8⟩) fun s hs => ?_
        have e103 : (zx_up μ' 82 40 y) 103 = μ 103 := by rw [gg 103 (by decide), as' 103 (by decide)]
        rcases hs with ⟨_, s1, c7⟩ | ⟨e3, _⟩
        · refine Or.inr ⟨a + 1, nv, wv, _, d - 1, by omega, fun q => by rw [c7.2.1, q]; rfl, x1.of (f' 17 (by decide)) (f' 25 (by decide)) (f' 26 (by decide)) (f' 27 (by decide)) rfl rfl, s1, x2.of (fun s hs => ?_) (f' 18 (by decide)) (f' 20 (by decide)) (f' 21 (by decide)) rfl rfl, nm1.c7 (fun q a b c d _ _ _ _ => c7.1 q a b c d) c7.2.2, pk1.dep hd (by omega) (fun q hq => fr q (by omega)) l1 ?_ ?_ (fun q hq => c7.1 q (by omega) (by omega) (by omega) (by omega)) (fun i hi => c7.2.2 i (by omega) (by omega) (by omega) (by omega) (by omega) (by omega)) c7.2.1 (fun i hi => ?_), la1.c7 (fr 24 (by decide)) rfl (fun q a b c d _ _ _ _ => c7.1 q a b c d) c7.2.2⟩
          · dsimp only
            rw [fr 4 (by decide), em.2.1 s (by omega)]
          · dsimp only
            rw [l2, em.2.2.2.2.2.2.2.2 8 (by decide) (by decide) (by decide)]
          · dsimp only
            rw [l12, r29, c7.2.2 41 (by decide) (by decide) (by decide) (by decide) (by decide) (by decide), g82 41 (by decide) (by decide)]
            exact q4
          · dsimp only
            rw [fr 30 (by decide), ce.1, c7.1 103 (by decide) (by decide) (by decide) (by decide), e103]
            exact q6 i (by omega)
        · rw [e103, ← hb, e1] at e3
          exact absurd e3 (by decide)
      ·
        have n1' : μ 103 (d - 1) ≠ 1 := fun e => n1 (hb.trans e)
        have f' : ∀ q, q = 4 ∨ q = 5 ∨ q = 7 ∨ q = 17 ∨ q = 18 ∨ q = 20 ∨ q = 21 ∨ q = 24 ∨ q = 25 ∨ q = 26 ∨ q = 27 ∨ q = 30 → r5 q = r3.1 q := fun q hq => fr q (by omega) (by omega) (by omega)
        have fin : ∀ μ' : zS, (∀ q, q ≠ 82 → q ≠ 94 → q ≠ 95 → q ≠ 102 → μ' q = μ q) → (∀ i, i ≠ 37 → i ≠ 41 → μ' 82 i = μ 82 i) → r5 29 12 = μ' 82 41 → zp (zb_M_closeBlock_177 N' μ' (Int32.ofNat (d - 1))) (fun s => OUT T a c ws r5 r3.2 s) := by
          intro μ' m1 m2 m3
          have sm1 : SM T a μ' := sm.of (m1 84 (by decide) (by decide) (by decide) (by decide)) fun i hi => m2 i (by omega) (by omega)
          have nm1 : NSM c ws nv wv μ' := nm.of (fun i hi => m2 i (by omega) (by omega)) (fun p _ => by rw [m1 86 (by decide) (by decide) (by decide) (by decide)]) (fun p _ => by rw [m1 85 (by decide) (by decide) (by decide) (by decide)])
          have e103 : μ' 103 = μ 103 := m1 103 (by decide) (by decide) (by decide) (by decide)
          refine zp_mono (p_M_177 sm1 hk (by rw [m2 46 (by decide) (by decide)]; exact h46) ⟨hd, d8⟩) fun s hs => ?_
          rcases hs with ⟨_, s1, c7⟩ | ⟨e3, e5, _⟩
          · have F : ∀ q, q ≠ 82 → q ≠ 94 → q ≠ 95 → q ≠ 102 → s q = μ q := fun q a b c d => by rw [c7.1 q a b c d, m1 q a b c d]
            refine Or.inr ⟨a + 1, nv, wv, len, d - 1, by omega, fun q => by rw [c7.2.1, q]; rfl, x1.of (f' 17 (by decide)) (f' 25 (by decide)) (f' 26 (by decide)) (f' 27 (by decide)) rfl rfl, s1, x2.of (fun s hs => by rw [f' 4 (by decide)]) (f' 18 (by decide)) (f' 20 (by decide)) (f' 21 (by decide)) rfl rfl, nm1.c7 (fun q a b c d _ _ _ _ => c7.1 q a b c d) c7.2.2, pk.dep hd (by omega) (fun q hq => by rw [f' q (by omega), x3.1 q (by omega)]) l1 (by rw [l2, r29]) ?_ (fun q hq => F q (by omega) (by omega) (by omega) (by omega)) (fun i hi => by rw [c7.2.2 i (by omega) (by omega) (by omega) (by omega) (by omega) (by omega), m2 i (by omega) (by omega)]) c7.2.1 (fun i hi => ?_), ?_⟩
            · rw [c7.2.2 41 (by decide) (by decide) (by decide) (by decide) (by decide) (by decide)]; exact m3
            · rw [f' 30 (by decide), r30, F 103 (by decide) (by decide) (by decide) (by decide)]; exact q6 i (by omega)
            · have n : ∀ q, q = 85 ∨ q = 86 ∨ q = 87 ∨ q = 92 ∨ q = 93 → s q = μ q := fun q hq => F q (by omega) (by omega) (by omega) (by omega)
              exact la.of (by rw [f' 24 (by decide), x3.1 24 (by decide)]) (x6 23 (by decide)) (by rw [c7.2.2 19 (by decide) (by decide) (by decide) (by decide) (by decide) (by decide), m2 19 (by decide) (by decide)]) (n 87 (by decide)) (n 92 (by decide)) (n 93 (by decide)) (fun p _ => by rw [n 86 (by decide)]) (fun p _ => by rw [n 85 (by decide)])
          · rw [e103, ← hb] at e3
            rcases hno with h | h
            · exact absurd e3 h
            · exact absurd e5 h
        refine refOther n1' (fun μ' w n2 => fin μ' w.1 (fun i a _ => w.2 i a) ?_) fun e2 => fin _ (fun q a _ _ _ => zu_other a) (fun i _ b => by rw [zx_up_same, zu_ne b]) ?_
        · rcases l12 with l | l
          · exact absurd (hb.symm.trans l.1) n2
          · rw [l.2, r29, w.2 41 (by decide)]; exact q4
        · rcases l12 with l | l
          · rw [l.2, zx_up_same, zu_eq]
          · exact absurd (hb.trans e2) l.1
    refine zp_ite (fun z => lv (Or.inl z)) fun z => ?_
    rw [x1.k]
    refine zp_ite (fun y => lv (Or.inr y)) fun y => ?_
    have z3 : ρ 30 (d - 1) = 3 := Classical.not_not.mp z
    have y5 : T.1 (a + 1) = 305 := Classical.not_not.mp y
    have n1' : μ 103 (d - 1) ≠ 1 := by rw [← hb, z3]; decide
    refine zp_bind (zp_mono (X.tk sm.1 x1 x2 (by rw [y5]; decide)) ?_)
    rintro r7 ⟨y1, y2, y3, y4, y5', y6⟩
    have tte : zp (zf_Weaver_turnToElse r7.1) (fun r => (∀ q, q ≠ 29 → q ≠ 30 → q ≠ 32 → q ≠ 33 → r q = r7.1 q) ∧ (∀ i, i ≠ 9 → i ≠ 10 → r 29 i = r7.1 29 i) ∧ r 30 (d - 1) = 4 ∧ ∀ j, j ≠ d - 1 → r 30 j = r7.1 30 j) := by
      unfold zf_Weaver_turnToElse
      have e6 : r7.1 29 6 = Int32.ofNat d := by rw [y3.1 29 (by decide), r29]; exact h6
      rw [e6, zo_pred hd (by omega), zo_n (by omega)]
      refine zp_ite (fun q => ?_) fun _ => zp_ite (fun q => ?_) fun _ => zp_chk fun _ => zp_chk fun _ => zp_chk fun _ => zp_chk fun _ => zp_some ⟨fun q a b c d => ?_, fun i a b => ?_, ?_, fun j hj => ?_⟩
      · have := (zo_le (k := d) (j := 0) (by omega) (by omega)).mp q
        omega
      · have := (zo_lt (k := 8) (j := d) (by omega) (by omega)).mp q
        omega
      · rw [zu_other a, zu_other a, zu_other d, zu_other c, zu_other b]
      · rw [zx_up_same, zu_ne b, zx_up_same, zu_ne a]
        iterate 3 rw [zu_other (by decide)]
      · iterate 4 rw [zu_other (by decide)]
        rw [zx_up_same, zu_eq]
      · iterate 4 rw [zu_other (by decide)]
        rw [zx_up_same, zu_ne hj]
    refine zp_bind (zp_mono tte ?_)
    rintro r8 ⟨t1, t2, t3, t5⟩
    have t' : ∀ q, q = 4 ∨ q = 5 ∨ q = 7 ∨ q = 17 ∨ q = 18 ∨ q = 20 ∨ q = 21 ∨ q = 24 ∨ q = 25 ∨ q = 26 ∨ q = 27 → r8 q = r7.1 q := fun q hq => t1 q (by omega) (by omega) (by omega) (by omega)
    have sx8 : SX T (a + 1 + 1) r8 r7.2 := y1.of (t' 17 (by decide)) (t' 25 (by decide)) (t' 26 (by decide)) (t' 27 (by decide)) rfl rfl
    have ns8 : NNX c ws nv wv r8 r7.2 := y2.of (fun s _ => by rw [t' 4 (by decide)]) (t' 18 (by decide)) (t' 20 (by decide)) (t' 21 (by decide)) rfl rfl
    refine zp_bind (zp_mono (p_take sm.1 sx8 ns8 (x := 123) (by decide)) fun r9 h9 => zp_some ?_)
    have n2' : μ 103 (d - 1) ≠ 2 := by rw [← hb, z3]; decide
    refine refOther n1' (fun μ' w _ => ?_) fun e => absurd e n2'
    have sm1 : SM T a μ' := sm.wy w
    have nm1 : NSM c ws nv wv μ' := nm.of (fun i hi => w.2 i (by omega)) (fun p _ => by rw [w.1 86 (by decide) (by decide) (by decide) (by decide)]) (fun p _ => by rw [w.1 85 (by decide) (by decide) (by decide) (by decide)])
    have e103 : μ' 103 = μ 103 := w.1 103 (by decide) (by decide) (by decide) (by decide)
    refine zp_mono (p_M_177 sm1 hk (by rw [w.2 46 (by decide)]; exact h46) ⟨hd, d8⟩) fun s hs => ?_
    rcases hs with ⟨hn, _⟩ | ⟨_, _, ⟨k3, fl⟩ | ⟨k3, s1, c7⟩⟩
    · rcases hn with h | h
      · exact absurd (by rw [e103, ← hb]; exact z3) h
      · exact absurd y5 h
    · rcases h9 with ⟨_, _, xf, _⟩ | ⟨_, ek, _⟩
      · exact Or.inl ⟨_, xf, fl⟩
      · exact absurd ek k3
    · rcases h9 with ⟨_, nk, _⟩ | ⟨_, ek, sx9, ns9, xa, g9, _⟩
      · exact absurd k3 nk
      · have F : ∀ q, q ≠ 82 → q ≠ 94 → q ≠ 95 → q ≠ 102 → q ≠ 103 → q ≠ 104 → q ≠ 105 → q ≠ 106 → s q = μ q := fun q a b c d e f g h => by rw [c7.1 q a b c d e f g h, w.1 q a b c d]
        have G : ∀ i, i ≠ 5 → i ≠ 6 → i ≠ 7 → i ≠ 8 → i ≠ 37 → i ≠ 46 → s 82 i = μ 82 i := fun i a b c d e f => by rw [c7.2.2.1 i a b c d e f, w.2 i e]
        have X : ∀ q, q = 4 ∨ q = 5 ∨ q = 7 ∨ q = 24 → r9.2.1 q = ρ q := fun q hq => by rw [xa.1 q (by omega), t' q (by omega), y3.1 q (by omega), x3.1 q (by omega)]
        have X29 : ∀ i, i = 6 ∨ i = 8 ∨ i = 12 → r9.2.1 29 i = ρ 29 i := fun i hi => by rw [xa.1 29 (by decide), t2 i (by omega) (by omega), y3.1 29 (by decide), r29]
        refine Or.inr ⟨a + 2 + 1, nv, wv, len, d, by omega, fun q => by omega, sx9, s1, ns9, nm.c7 F G, pk.dep hd d8 (fun q hq => X q (by omega)) (by rw [X29 6 (by decide)]; exact h6) (X29 8 (by decide)) ?_ (fun q hq => F q (by omega) (by omega) (by omega) (by omega) (by omega) (by omega) (by omega) (by omega)) (fun i hi => G i (by omega) (by omega) (by omega) (by omega) (by omega) (by omega)) c7.2.1 (fun i hi => ?_), la.c7 (X 24 (by decide)) ?_ F G⟩
        · dsimp only
          rw [X29 12 (by decide), G 41 (by decide) (by decide) (by decide) (by decide) (by decide) (by decide)]
          exact q4
        · dsimp only
          rw [xa.1 30 (by decide)]
          by_cases e : i = d - 1
          · rw [e, t3, c7.2.2.2.1]
          · rw [t5 i e, y3.1 30 (by decide), r30, c7.2.2.2.2 i e, e103]; exact q6 i hi
        · dsimp only
          rw [g9 23 (by decide), y6 23 (by decide), x6 23 (by decide)]
  unfold zf_Reader_closeBlock
  refine zp_bind (zp_mono inn fun r1 h1 => ?_)
  rw [h1]
  refine zp_ite (fun z => main fun e => absurd e z) fun z => zp_bind (zp_mono (p_X_room sx h8 t4 h5 hL).2 fun r10 h10 => ?_)
  have z1 : ρ 30 (d - 1) = 1 := Classical.not_not.mp z
  rcases h10 with ⟨l, e, fl⟩ | ⟨l, e⟩
  · exact zp_ite (fun q => absurd e q) fun _ => zp_some (refLock (hb ▸ z1) (fun _ s hs => Or.inl ⟨_, fl, hs⟩) fun l' => by omega)
  · rw [e]
    exact zp_ite (fun _ => main fun _ => l) fun q => absurd (show ¬ (1 : Int32) = 0 by decide) q
theorem p_M_other {T : TS} {a N : Nat} {μ : zS} (sm : SM T a μ) (h : ∀ k : Int32, (k = 3 ∨ k = 302 ∨ k = 304 ∨ k = 306 ∨ k = 307 ∨ k = 308 ∨ k = 310 ∨ k = 311 ∨ k = 312 ∨ k = 313 ∨ k = 314) → T.1 a ≠ k) : zp (zf_M_statement N μ) (fun s => MFl s (T.2.1 a)) := by
  have can : zp ((zf_M_cannot μ).bind fun r => some r) (fun s => MFl s (T.2.1 a)) := by
    refine zp_bind (zp_mono (p_M_cannot sm.2.2.2) fun s hs => zp_some ?_)
    rw [sm.p] at hs
    exact hs
  have no : ∀ x : Int32, 1 ≤ x → x ≤ 15 → μ 82 7 = 5 → μ 82 8 = x → T.1 a = x + 299 := fun x h1 h2 e7 e8 => (sm.d.word ⟨h1, h2⟩).mp ⟨e7, e8⟩
  unfold zf_M_statement
  refine zp_ite (fun _ => zp_ite (fun e7 => ?_) fun _ => can) fun q => absurd (sm.d.name.mp (Classical.not_not.mp q)) (h 3 (by decide))
  refine zp_ite (fun e => absurd (no 3 (by decide) (by decide) e7 e) (h 302 (by decide))) fun _ => zp_ite (fun _ => can) fun _ => zp_ite (fun e => absurd (no 5 (by decide) (by decide) e7 e) (h 304 (by decide))) fun _ => zp_ite (fun _ => can) fun _ => zp_ite (fun e => absurd (no 7 (by decide) (by decide) e7 e) (h 306 (by decide))) fun _ => zp_ite (fun e => absurd (no 8 (by decide) (by decide) e7 e) (h 307 (by decide))) fun _ => zp_ite (fun e => absurd (no 9 (by decide) (by decide) e7 e) (h 308 (by decide))) fun _ => zp_ite (fun _ => can) fun _ => zp_ite (fun e => absurd (no 11 (by decide) (by decide) e7 e) (h 310 (by decide))) fun _ => zp_ite (fun e => absurd (no 12 (by decide) (by decide) e7 e) (h 311 (by decide))) fun _ => zp_ite (fun e => absurd (no 13 (by decide) (by decide) e7 e) (h 312 (by decide))) fun _ => zp_ite (fun e => absurd (no 14 (by decide) (by decide) e7 e) (h 313 (by decide))) fun _ => zp_ite (fun e => absurd (no 15 (by decide) (by decide) e7 e) (h 314 (by decide))) fun _ => can
theorem p_wrap {α β : Type} {o : Option (α × β)} {Q : α × β → Prop} (h : zp o Q) : zp (o.bind fun r => some (r.1, r.2)) Q := zp_bind (zp_mono h fun _ hr => zp_some hr)
theorem s_stmt {T : TS} {a N N' : Nat} {c : Nat → Nat} {ws : Nat → Nat → Int64} {nv : Nat} {wv : Nat → Int64} {len : Nat → Nat} {d : Nat} {ρ : zS} {τ : zT} {μ : zS} (rl : RLX T a c ws nv wv len d ρ τ μ) (hd : 0 < d) : zp (zf_Reader_readStatement N ρ τ) (fun r => (T.1 a = 125 ∧ zp (zf_M_closeBlock N' μ) (fun s => OUT T a c ws r.1 r.2 s)) ∨ (T.1 a ≠ 125 ∧ zp (zf_M_statement N' μ) (fun s => OUT T a c ws r.1 r.2 s))) := by
  have sx := rl.1
  have sm := rl.2.1
  unfold zf_Reader_readStatement
  rw [sx.k]
  have go : ∀ {o : Option (zS × zT)} {k : Int32}, T.1 a = k → k ≠ 125 → zp o (fun r => zp (zf_M_statement N' μ) (fun s => OUT T a c ws r.1 r.2 s)) → zp (o.bind fun r => some (r.1, r.2)) (fun r => (T.1 a = 125 ∧ zp (zf_M_closeBlock N' μ) (fun s => OUT T a c ws r.1 r.2 s)) ∨ (T.1 a ≠ 125 ∧ zp (zf_M_statement N' μ) (fun s => OUT T a c ws r.1 r.2 s))) := by
    intro o k e hk h
    exact p_wrap (zp_mono h fun r hr => Or.inr ⟨by rw [e]; exact hk, hr⟩)
  refine zp_ite (fun e => go e (by decide) (s_set rl hd e)) fun n3 => zp_ite (fun e => p_wrap (zp_mono (s_close rl hd e) fun r hr => Or.inl ⟨e, hr⟩)) fun n125 => zp_ite (fun e => go e (by decide) (s_lock rl hd e)) fun n302 => zp_ite (fun e => go e (by decide) ?_) fun n304 => zp_ite (fun e => go e (by decide) ?_) fun n306 => zp_ite (fun e => go e (by decide) (s_wait rl hd e)) fun n307 => zp_ite (fun e => go e (by decide) (s_wake rl hd e)) fun n308 => zp_ite (fun e => go e (by decide) ?_) fun n310 => zp_ite (fun e => go e (by decide) ?_) fun n311 => zp_ite (fun e => go e (by decide) (s_check rl hd e)) fun n312 => zp_ite (fun e => go e (by decide) (s_stop rl hd e)) fun n313 => zp_ite (fun e => go e (by decide) (s_span rl hd e)) fun n314 => ?_
  · rw [p_M_if (sm.k (x := 5) (by decide) e)]
    exact s_branch rl hd (by rw [e]; decide) (by decide) (by decide)
  · rw [p_M_while (sm.k (x := 7) (by decide) e)]
    exact s_branch rl hd (by rw [e]; decide) (by decide) (by decide)
  · rw [p_M_start (sm.k (x := 11) (by decide) e)]
    exact s_thread rl hd (by rw [e]; decide) (Or.inl rfl)
  · rw [p_M_join (sm.k (x := 12) (by decide) e)]
    exact s_thread rl hd (by rw [e]; decide) (Or.inr rfl)
  · refine zp_bind (zp_mono (p_X_fail (by decide)) fun r hr => zp_some (Or.inr ⟨n125, ?_⟩))
    rw [sx.p] at hr
    refine zp_mono (p_M_other sm ?_) fun s hs => Or.inl ⟨_, hr.2, hs⟩
    rintro k (h | h | h | h | h | h | h | h | h | h | h) <;> subst h <;> assumption
def NX3 (c : Nat → Nat) (ws : Nat → Nat → Int64) (ρ : zS) (τ : zT) : Prop :=
  (∀ s, s < 3 → c s ≤ cap s ∧ ρ 4 s = Int32.ofNat (c s)) ∧ ρ 18 3 = Int32.ofNat (c 0 + c 1 + c 2) ∧
  (∀ i, i < c 0 + c 1 + c 2 → ∃ s k, s < 3 ∧ k < c s ∧ ρ 20 i = Int32.ofNat s ∧ ρ 21 i = Int32.ofNat k ∧ τ 19 i = ws s k) ∧
  (∀ s k, s < 3 → k < c s → ∃ i, i < c 0 + c 1 + c 2 ∧ ρ 20 i = Int32.ofNat s ∧ ρ 21 i = Int32.ofNat k ∧ τ 19 i = ws s k) ∧
  (∀ i j, i < c 0 + c 1 + c 2 → j < c 0 + c 1 + c 2 → τ 19 i = τ 19 j → i = j)
def NM3 (c : Nat → Nat) (ws : Nat → Nat → Int64) (μ : zS) : Prop := ∀ s, s < 3 → c s ≤ cap s ∧ μ 82 (15 + s) = Int32.ofNat (c s) ∧ ∀ k, k < c s → Nm μ (bs s + k) (ws s k)
theorem NSX.n3 {c : Nat → Nat} {ws : Nat → Nat → Int64} {nv : Nat} {wv : Nat → Int64} {ρ : zS} {τ : zT} (h : NSX c ws nv wv ρ τ) : NX3 c ws ρ τ := ⟨h.1, h.2.1, h.2.2.1, h.2.2.2.1, h.2.2.2.2.1⟩
theorem NX3.to {c : Nat → Nat} {ws : Nat → Nat → Int64} {wv : Nat → Int64} {ρ : zS} {τ : zT} (h : NX3 c ws ρ τ) (h5 : ρ 18 5 = 0) : NNX c ws 0 wv ρ τ := ⟨⟨h.1, h.2.1, h.2.2.1, h.2.2.2.1, h.2.2.2.2, by omega, h5, fun k hk => absurd hk (Nat.not_lt_zero _)⟩, fun j k hj => absurd hj (Nat.not_lt_zero _), fun s k j _ _ hj => absurd hj (Nat.not_lt_zero _)⟩
theorem NM3.to {c : Nat → Nat} {ws : Nat → Nat → Int64} {wv : Nat → Int64} {μ : zS} (h : NM3 c ws μ) (h18 : μ 82 18 = 0) : NSM c ws 0 wv μ := ⟨h, by omega, h18, fun k hk => absurd hk (Nat.not_lt_zero _)⟩
theorem NX3.of {c : Nat → Nat} {ws : Nat → Nat → Int64} {ρ ρ' : zS} {τ τ' : zT} (h : NX3 c ws ρ τ) (e4 : ∀ s, s < 3 → ρ' 4 s = ρ 4 s) (e18 : ρ' 18 3 = ρ 18 3) (e20 : ρ' 20 = ρ 20) (e21 : ρ' 21 = ρ 21) (t19 : τ' 19 = τ 19) : NX3 c ws ρ' τ' := by
  unfold NX3 at *
  rw [e18, e20, e21, t19]
  exact ⟨fun s hs => ⟨(h.1 s hs).1, (e4 s hs).trans (h.1 s hs).2⟩, h.2⟩
theorem NM3.of {c : Nat → Nat} {ws : Nat → Nat → Int64} {μ ν : zS} (h : NM3 c ws μ) (e : ∀ i, (15 ≤ i ∧ i ≤ 17) → ν 82 i = μ 82 i) (e86 : ∀ p, p < 14 → ν 86 p = μ 86 p) (e85 : ∀ j, j < 84 → ν 85 j = μ 85 j) : NM3 c ws ν := by
  intro s hs
  obtain ⟨a1, a2, a3⟩ := h s hs
  refine ⟨a1, (e (15 + s) (by omega)).trans a2, fun k hk => ?_⟩
  have := bs_le hs a1 hk
  exact (a3 k hk).of (fun i hi => e85 _ (by omega)) (e86 _ (by omega))
theorem NX3.z {c : Nat → Nat} {ws : Nat → Nat → Int64} {ρ : zS} {τ : zT} (h : NX3 c ws ρ τ) : c 0 + c 1 + c 2 ≤ 14 := by
  have a := (h.1 0 (by decide)).1
  have b := (h.1 1 (by decide)).1
  have d := (h.1 2 (by decide)).1
  unfold cap at a b d
  simp at a b d
  omega
theorem NX3.inj {c : Nat → Nat} {ws : Nat → Nat → Int64} {ρ : zS} {τ : zT} (h : NX3 c ws ρ τ) {s s' k k' : Nat} (hs : s < 3) (hk : k < c s) (hs' : s' < 3) (hk' : k' < c s') (e : ws s k = ws s' k') : s = s' ∧ k = k' := by
  have z := h.z
  have m1 := (h.1 s hs).1
  have m2 := (h.1 s' hs').1
  have m3 := cap_le s
  have m4 := cap_le s'
  obtain ⟨i, i1, i2, i3, i4⟩ := h.2.2.2.1 s k hs hk
  obtain ⟨j, j1, j2, j3, j4⟩ := h.2.2.2.1 s' k' hs' hk'
  have ij := h.2.2.2.2 i j i1 j1 (by rw [i4, j4, e])
  subst ij
  exact ⟨zo_inj (by omega) (by omega) (i2.symm.trans j2), zo_inj (by omega) (by omega) (i3.symm.trans j3)⟩
theorem p_X_sortOf3 {c : Nat → Nat} {ws : Nat → Nat → Int64} {ρ : zS} {τ : zT} {N : Nat} {w : Int64} (h : NX3 c ws ρ τ) : zp (zf_Names_sortOf N ρ τ w) (fun r => (r = -1 ∧ ∀ s k, s < 3 → k < c s → ws s k ≠ w) ∨ (∃ s k, s < 3 ∧ k < c s ∧ ws s k = w ∧ r = Int32.ofNat s)) := by
  have z := h.z
  unfold zf_Names_sortOf
  have go : ∀ (n i : Nat), i ≤ c 0 + c 1 + c 2 → (∀ j, j < i → τ 19 j ≠ w) → zp (zb_Names_sortOf_2 N n ρ τ w (Int32.ofNat i)) (fun r => (r = -1 ∧ ∀ s k, s < 3 → k < c s → ws s k ≠ w) ∨ (∃ s k, s < 3 ∧ k < c s ∧ ws s k = w ∧ r = Int32.ofNat s)) := by
    intro n
    induction n with
    | zero => intro _ _ _; exact zp_none
    | succ n ih =>
      intro i hi hj
      rw [zb_Names_sortOf_2, h.2.1]
      have no : c 0 + c 1 + c 2 ≤ i → (∀ s k, s < 3 → k < c s → ws s k ≠ w) := by
        intro q s k hs hk e
        obtain ⟨j, j1, j2, j3, j4⟩ := h.2.2.2.1 s k hs hk
        exact hj j (by omega) (j4.trans e)
      refine zp_ite (fun q => zp_some (Or.inl ⟨rfl, no ?_⟩)) fun q => zp_ite (fun q2 => zp_some (Or.inl ⟨rfl, no ?_⟩)) fun q2 => zp_chk fun _ => ?_
      · exact (zo_le (by omega) (by omega)).mp q
      · have := (zo_le (k := 14) (j := i) (by omega) (by omega)).mp q2
        omega
      · have lt : i < c 0 + c 1 + c 2 := by
          rw [zo_le (by omega) (by omega)] at q
          omega
        rw [zo_n (by omega)]
        refine zp_ite (fun d => ?_) fun d => zp_chk fun _ => zp_some (Or.inr ?_)
        · rw [zo_1 (by omega)]
          refine ih (i + 1) (by omega) fun j hj' => ?_
          by_cases e : j = i
          · rw [e]; exact d
          · exact hj j (by omega)
        · obtain ⟨s, k, a1, a2, a3, a4, a5⟩ := h.2.2.1 i lt
          exact ⟨s, k, a1, a2, a5.symm.trans (Classical.not_not.mp d), a3⟩
  exact go N 0 (Nat.zero_le _) fun j hj => absurd hj (Nat.not_lt_zero _)
theorem p_X_numberOf3 {c : Nat → Nat} {ws : Nat → Nat → Int64} {ρ : zS} {τ : zT} {N s : Nat} {w : Int64} (h : NX3 c ws ρ τ) (hs : s < 3) : zp (zf_Names_numberOf N ρ τ w (Int32.ofNat s)) (fun r => LK (c s) (ws s) w r) := by
  have z := h.z
  unfold zf_Names_numberOf
  have go : ∀ (n i : Nat), i ≤ c 0 + c 1 + c 2 → (∀ j, j < i → ¬ (τ 19 j = w ∧ ρ 20 j = Int32.ofNat s)) → zp (zb_Names_numberOf_3 N n ρ τ w (Int32.ofNat s) (Int32.ofNat i)) (fun r => LK (c s) (ws s) w r) := by
    intro n
    induction n with
    | zero => intro _ _ _; exact zp_none
    | succ n ih =>
      intro i hi hj
      rw [zb_Names_numberOf_3, h.2.1]
      have no : c 0 + c 1 + c 2 ≤ i → (∀ k, k < c s → ws s k ≠ w) := by
        intro q k hk e
        obtain ⟨j, j1, j2, j3, j4⟩ := h.2.2.2.1 s k hs hk
        exact hj j (by omega) ⟨j4.trans e, j2⟩
      refine zp_ite (fun q => zp_some (Or.inl ⟨rfl, no ?_⟩)) fun q => zp_ite (fun q2 => zp_some (Or.inl ⟨rfl, no ?_⟩)) fun q2 => zp_chk fun _ => ?_
      · exact (zo_le (by omega) (by omega)).mp q
      · have := (zo_le (k := 14) (j := i) (by omega) (by omega)).mp q2
        omega
      · have lt : i < c 0 + c 1 + c 2 := by
          rw [zo_le (by omega) (by omega)] at q
          omega
        rw [zo_n (by omega)]
        have on : ¬ (τ 19 i = w ∧ ρ 20 i = Int32.ofNat s) → zp (zb_Names_numberOf_50 (zb_Names_numberOf_3 N n) N ρ τ w (Int32.ofNat s) (Int32.ofNat i)) (fun r => LK (c s) (ws s) w r) := by
          intro d
          unfold zb_Names_numberOf_50
          rw [zo_1 (by omega)]
          refine ih (i + 1) (by omega) fun j hj' => ?_
          by_cases e : j = i
          · rw [e]; exact d
          · exact hj j (by omega)
        refine zp_ite (fun d => on fun x => d x.1) fun d => zp_chk fun _ => zp_ite (fun d2 => on fun x => d2 x.2) fun d2 => zp_chk fun _ => zp_some (Or.inr ?_)
        obtain ⟨s', k, a1, a2, a3, a4, a5⟩ := h.2.2.1 i lt
        have es : s' = s := zo_inj (by omega) (by omega) (a3.symm.trans (Classical.not_not.mp d2))
        subst es
        have ew := a5.symm.trans (Classical.not_not.mp d)
        exact ⟨k, a2, a4, ew, fun j hj' e => (h.inj hs hj' hs a2 (e.trans ew.symm)).2⟩
  exact go N 0 (Nat.zero_le _) fun j hj => absurd hj (Nat.not_lt_zero _)
theorem p_told {T : TS} {b N N' : Nat} {c : Nat → Nat} {ws : Nat → Nat → Int64} {ρ : zS} {τ : zT} (h : NX3 c ws ρ τ) (w : Int64) (hw : w = T.2.2.1 b) (hk : T.1 b = 3) : zp (zf_Names_sortOf N ρ τ w) (fun r => (r = -1 ∧ (∀ s k, s < 3 → k < c s → ws s k ≠ w) ∧ ∀ μ, SM T b μ → NM3 c ws μ → zp (zf_M_isTold N' μ) (fun u => u = 0)) ∨ (r ≠ -1 ∧ ∀ μ, SM T b μ → NM3 c ws μ → zp (zf_M_isTold N' μ) (fun u => u = 1))) := by
  have z := h.z
  obtain ⟨f, hf⟩ := LK.ex (n := c 0) (wo := ws 0) (fun j k hj hk e => (h.inj (by decide) hj (by decide) hk e).2) w
  obtain ⟨l, hl⟩ := LK.ex (n := c 1) (wo := ws 1) (fun j k hj hk e => (h.inj (by decide) hj (by decide) hk e).2) w
  obtain ⟨t, ht⟩ := LK.ex (n := c 2) (wo := ws 2) (fun j k hj hk e => (h.inj (by decide) hj (by decide) hk e).2) w
  have ref : ∀ μ, SM T b μ → NM3 c ws μ → zp (zf_M_isTold N' μ) (TldO f l t) := by
    intro μ sm nm
    have cur : Cur μ w := by rw [hw]; exact sm.cur hk
    have a0 := nm 0 (by decide)
    have a1 := nm 1 (by decide)
    have a2 := nm 2 (by decide)
    have c0 := cap_le 0
    have c1 := cap_le 1
    have c2 := cap_le 2
    unfold zf_M_isTold zb_M_isTold_24 zf_M_fieldHere zf_M_lockHere zf_M_threadHere
    rw [show μ 82 15 = Int32.ofNat (c 0) from a0.2.1, show μ 82 16 = Int32.ofNat (c 1) from a1.2.1, show μ 82 17 = Int32.ofNat (c 2) from a2.2.1]
    refine zp_bind (zp_bind (zp_mono (p_M_findK (fr := 0) (by omega) (fun k hk => a0.2.2 k hk) cur hf) fun r1 e1 => zp_some (zp_ite (fun d => zp_some (Or.inr ⟨rfl, fun x => d (e1.trans x.1)⟩)) fun d => zp_bind (zp_bind (zp_mono (p_M_findK (fr := 6) (by omega) (fun k hk => a1.2.2 k hk) cur hl) fun r2 e2 => zp_some (zp_ite (fun d2 => zp_some (Or.inr ⟨rfl, fun x => d2 (e2.trans x.2.1)⟩)) fun d2 => zp_bind (zp_bind (zp_mono (p_M_findK (fr := 10) (by omega) (fun k hk => a2.2.2 k hk) cur ht) fun r3 e3 => zp_some (zp_ite (fun d3 => zp_some (Or.inl ⟨rfl, e1.symm.trans (Classical.not_not.mp d), e2.symm.trans (Classical.not_not.mp d2), e3.symm.trans d3⟩)) fun d3 => zp_some (Or.inr ⟨rfl, fun x => d3 (e3.trans x.2.2)⟩))))))))))
  refine zp_mono (p_X_sortOf3 h) fun r hr => ?_
  rcases hr with ⟨e, no⟩ | ⟨s, k, hs, hk', e, er⟩
  · refine Or.inl ⟨e, no, fun μ sm nm => zp_mono (ref μ sm nm) fun u hu => ?_⟩
    rcases hu with hu | hu
    · exact hu.1
    · exact absurd ⟨(hf.no (by omega)).mpr fun k hk => no 0 k (by decide) hk, (hl.no (by omega)).mpr fun k hk => no 1 k (by decide) hk, (ht.no (by omega)).mpr fun k hk => no 2 k (by decide) hk⟩ hu.2
  · refine Or.inr ⟨by rw [er]; exact zo_ne (by omega), fun μ sm nm => zp_mono (ref μ sm nm) fun u hu => ?_⟩
    rcases hu with hu | hu
    · exfalso
      match s, hs, hk', e with
      | 0, hs, hk', e => exact (hf.no (by omega)).mp hu.2.1 k hk' e
      | 1, hs, hk', e => exact (hl.no (by omega)).mp hu.2.2.1 k hk' e
      | 2, hs, hk', e => exact (ht.no (by omega)).mp hu.2.2.2 k hk' e
    · exact hu.1
def wsAdd (ws : Nat → Nat → Int64) (s n : Nat) (w : Int64) : Nat → Nat → Int64 := fun s' k => if s' = s ∧ k = n then w else ws s' k
theorem wsAdd_at {ws : Nat → Nat → Int64} {s n : Nat} {w : Int64} : wsAdd ws s n w s n = w := if_pos ⟨rfl, rfl⟩
theorem wsAdd_ne {ws : Nat → Nat → Int64} {s n s' k : Nat} {w : Int64} (h : ¬ (s' = s ∧ k = n)) : wsAdd ws s n w s' k = ws s' k := if_neg h
theorem z3_up {c : Nat → Nat} {s : Nat} (hs : s < 3) : lUp c s (c s + 1) 0 + lUp c s (c s + 1) 1 + lUp c s (c s + 1) 2 = c 0 + c 1 + c 2 + 1 := by
  unfold lUp
  match s, hs with
  | 0, _ => simp; omega
  | 1, _ => simp; omega
  | 2, _ => simp; omega
theorem NX3.tell {c : Nat → Nat} {ws : Nat → Nat → Int64} {ρ r : zS} {τ υ : zT} {s : Nat} {w : Int64} (h : NX3 c ws ρ τ) (hs : s < 3) (hc : c s < cap s) (no : ∀ s k, s < 3 → k < c s → ws s k ≠ w) (e4 : r 4 s = Int32.ofNat (c s + 1)) (e4' : ∀ s', s' < 3 → s' ≠ s → r 4 s' = ρ 4 s') (e18 : r 18 3 = Int32.ofNat (c 0 + c 1 + c 2 + 1)) (e20 : r 20 (c 0 + c 1 + c 2) = Int32.ofNat s) (e20' : ∀ j, j ≠ c 0 + c 1 + c 2 → r 20 j = ρ 20 j) (e21 : r 21 (c 0 + c 1 + c 2) = Int32.ofNat (c s)) (e21' : ∀ j, j ≠ c 0 + c 1 + c 2 → r 21 j = ρ 21 j) (t19 : υ 19 (c 0 + c 1 + c 2) = w) (t19' : ∀ j, j ≠ c 0 + c 1 + c 2 → υ 19 j = τ 19 j) : NX3 (lUp c s (c s + 1)) (wsAdd ws s (c s) w) r υ := by
  obtain ⟨h1, h2, h3, h4, h5⟩ := h
  unfold NX3
  rw [z3_up hs]
  have lt : ∀ {s' k}, k < c s' → k < lUp c s (c s + 1) s' := by
    intro s' k hk
    by_cases e : s' = s
    · rw [e, lUp_at]; rw [e] at hk; omega
    · rw [lUp_ne e]; exact hk
  have old : ∀ {s' k}, k < c s' → wsAdd ws s (c s) w s' k = ws s' k := by
    intro s' k hk
    refine wsAdd_ne fun q => ?_
    rw [q.1, q.2] at hk
    omega
  refine ⟨fun s' hs' => ?_, e18, fun i hi => ?_, fun s' k hs' hk => ?_, fun i j hi hj e => ?_⟩
  · by_cases e : s' = s
    · rw [e, lUp_at]; exact ⟨by omega, e4⟩
    · rw [lUp_ne e, e4' s' hs' e]; exact h1 s' hs'
  · by_cases e : i = c 0 + c 1 + c 2
    · rw [e]
      exact ⟨s, c s, hs, by rw [lUp_at]; omega, e20, e21, by rw [t19, wsAdd_at]⟩
    · obtain ⟨s', k, a1, a2, a3, a4, a5⟩ := h3 i (by omega)
      exact ⟨s', k, a1, lt a2, by rw [e20' i e]; exact a3, by rw [e21' i e]; exact a4, by rw [t19' i e, old a2]; exact a5⟩
  · by_cases q : s' = s ∧ k = c s
    · obtain ⟨rfl, rfl⟩ := q
      exact ⟨c 0 + c 1 + c 2, by omega, e20, e21, by rw [t19, wsAdd_at]⟩
    · have hk' : k < c s' := by
        by_cases e : s' = s
        · rw [e, lUp_at] at hk
          rw [e]
          have : k ≠ c s := fun x => q ⟨e, x⟩
          omega
        · rw [lUp_ne e] at hk; exact hk
      obtain ⟨i, i1, i2, i3, i4⟩ := h4 s' k hs' hk'
      exact ⟨i, by omega, by rw [e20' i (by omega)]; exact i2, by rw [e21' i (by omega)]; exact i3, by rw [t19' i (by omega), old hk']; exact i4⟩
  · have nw : ∀ j, j < c 0 + c 1 + c 2 → τ 19 j ≠ w := by
      intro j hj e
      obtain ⟨s', k, a1, a2, a3, a4, a5⟩ := h3 j hj
      exact no s' k a1 a2 (a5.symm.trans e)
    by_cases ei : i = c 0 + c 1 + c 2
    · by_cases ej : j = c 0 + c 1 + c 2
      · rw [ei, ej]
      · rw [ei, t19, t19' j ej] at e
        exact absurd e.symm (nw j (by omega))
    · by_cases ej : j = c 0 + c 1 + c 2
      · rw [ej, t19, t19' i ei] at e
        exact absurd e (nw i (by omega))
      · rw [t19' i ei, t19' j ej] at e
        exact h5 i j (by omega) (by omega) e
theorem bs_ne {c : Nat → Nat} {s s' k : Nat} (hs : s < 3) (hs' : s' < 3) (hc : c s < cap s) (hc' : c s' ≤ cap s') (hk : k < c s') : bs s' + k ≠ bs s + c s := by
  unfold bs
  unfold cap at hc hc'
  match s, s', hs, hs' with
  | 0, 0, _, _ => simp; omega
  | 0, 1, _, _ => simp at hc hc' ⊢; omega
  | 0, 2, _, _ => simp at hc hc' ⊢; omega
  | 1, 0, _, _ => simp at hc hc' ⊢; omega
  | 1, 1, _, _ => simp; omega
  | 1, 2, _, _ => simp at hc hc' ⊢; omega
  | 2, 0, _, _ => simp at hc hc' ⊢; omega
  | 2, 1, _, _ => simp at hc hc' ⊢; omega
  | 2, 2, _, _ => simp; omega
theorem NM3.tell {c : Nat → Nat} {ws : Nat → Nat → Int64} {μ ν ν' : zS} {s : Nat} {w : Int64} (h : NM3 c ws μ) (hs : s < 3) (hc : c s < cap s) (mc : MC0 (bs s + c s) μ ν) (nm : Nm ν (bs s + c s) w) (e85 : ν' 85 = ν 85) (e86 : ν' 86 = ν 86) (e : ν' 82 (15 + s) = Int32.ofNat (c s + 1)) (e' : ∀ i, 15 ≤ i → i ≤ 17 → i ≠ 15 + s → ν' 82 i = μ 82 i) : NM3 (lUp c s (c s + 1)) (wsAdd ws s (c s) w) ν' := by
  intro s' hs'
  obtain ⟨a1, a2, a3⟩ := h s' hs'
  have old : ∀ k, k < c s' → Nm ν' (bs s' + k) (ws s' k) := fun k hk => by
    have ne := bs_ne hs hs' hc a1 hk
    exact (a3 k hk).of (fun i hi => by rw [e85, mc.2.2 _ (by omega)]) (by rw [e86, mc.2.1 _ ne])
  by_cases q : s' = s
  · subst q
    rw [lUp_at]
    refine ⟨by omega, e, fun k hk => ?_⟩
    by_cases q2 : k = c s'
    · rw [q2, wsAdd_at]; exact nm.of (fun i hi => by rw [e85]) (by rw [e86])
    · rw [wsAdd_ne (fun x => q2 x.2)]; exact old k (by omega)
  · rw [lUp_ne q]
    refine ⟨a1, by rw [e' (15 + s') (by omega) (by omega) (by omega)]; exact a2, fun k hk => ?_⟩
    rw [wsAdd_ne (fun x => q x.1)]; exact old k hk
def TLD (c : Nat → Nat) (s : Nat) (w : Int64) (ρ r : zS) (τ υ : zT) : Prop :=
  (∀ q, q ≠ 18 → q ≠ 20 → q ≠ 21 → q ≠ 25 → r q = ρ q) ∧ (∀ i, i ≠ 3 → r 18 i = ρ 18 i) ∧ r 18 3 = Int32.ofNat (c 0 + c 1 + c 2 + 1) ∧ r 20 (c 0 + c 1 + c 2) = Int32.ofNat s ∧ (∀ j, j ≠ c 0 + c 1 + c 2 → r 20 j = ρ 20 j) ∧ r 21 (c 0 + c 1 + c 2) = Int32.ofNat (c s) ∧ (∀ j, j ≠ c 0 + c 1 + c 2 → r 21 j = ρ 21 j) ∧ υ 19 (c 0 + c 1 + c 2) = w ∧ (∀ j, j ≠ c 0 + c 1 + c 2 → υ 19 j = τ 19 j) ∧ (∀ q, q ≠ 19 → q ≠ 25 → υ q = τ q)
theorem p_tell {T : TS} {b N N' s : Nat} {c : Nat → Nat} {ws : Nat → Nat → Int64} {ρ : zS} {τ : zT} {bb : Nat → Int32} {nn : Int32} (tb : TB bb nn T.1 T.2.1 T.2.2.1 T.2.2.2.1 T.2.2.2.2) (sx : SX T b ρ τ) (h : NX3 c ws ρ τ) (hs : s < 3) : zp (zf_Reader_tellName N ρ τ (Int32.ofNat s) (Int32.ofNat (c s)) (Int32.ofNat (cap s))) (fun r => (r.1 = 0 ∧ XFl r.2.1 (T.2.1 b) ∧ ((¬ T.1 b = 3) ∨ (T.1 b = 3 ∧ ∀ μ, SM T b μ → NM3 c ws μ → zp (zf_M_isTold N' μ) (fun u => u = 1)) ∨ (T.1 b = 3 ∧ c s = cap s ∧ ∀ μ, SM T b μ → NM3 c ws μ → zp (zf_M_isTold N' μ) (fun u => u = 0)))) ∨ (r.1 = 1 ∧ T.1 b = 3 ∧ c s < cap s ∧ SX T (b + 1) r.2.1 r.2.2 ∧ (∀ s k, s < 3 → k < c s → ws s k ≠ T.2.2.1 b) ∧ TLD c s (T.2.2.1 b) ρ r.2.1 τ r.2.2 ∧ ∀ μ, SM T b μ → NM3 c ws μ → zp (zf_M_isTold N' μ) (fun u => u = 0))) := by
  have z := h.z
  have cc := (h.1 s hs).1
  have c6 := cap_le s
  have fl : ∀ k : Int32, k ≠ 0 → ∀ {Q : Int32 × zS × zT → Prop}, (∀ r : Int32 × zS, r.1 = 0 → XFl r.2 (T.2.1 b) → Q (r.1, r.2, τ)) → zp ((zf_Reader_failHere ρ k).bind fun r => if r.1 = 0 ∨ r.1 = 1 then some (r.1, r.2, τ) else none) Q := by
    intro k hk Q hq
    refine zp_bind (zp_mono (p_X_fail hk) fun r hr => zp_chk fun _ => zp_some (hq r hr.1 ?_))
    rw [← sx.p]
    exact hr.2
  unfold zf_Reader_tellName
  rw [sx.k, sx.w]
  refine zp_ite (fun k3 => zp_bind (zp_mono (p_told (T := T) (b := b) (N' := N') h _ rfl k3) fun r2 h2 => ?_)) fun k3 => fl 2 (by decide) fun r e x => Or.inl ⟨e, x, Or.inl k3⟩
  rcases h2 with ⟨e, no, m⟩ | ⟨ne, m⟩
  · refine zp_ite (fun _ => zp_ite (fun lt => ?_) fun ge => fl 4 (by decide) fun r e x => Or.inl ⟨e, x, Or.inr (Or.inr ⟨k3, ?_, m⟩)⟩) fun q => absurd e q
    · have lt' : c s < cap s := (zo_lt (by omega) (by omega)).mp lt
      have tl : zp (zf_Names_tell ρ τ (T.2.2.1 b) (Int32.ofNat s) (Int32.ofNat (c s))) (fun r => r = ((zx_up (zx_up (zx_up ρ 20 (c 0 + c 1 + c 2) (Int32.ofNat s)) 21 (c 0 + c 1 + c 2) (Int32.ofNat (c s))) 18 3 (Int32.ofNat (c 0 + c 1 + c 2 + 1))), (zx_up τ 19 (c 0 + c 1 + c 2) (T.2.2.1 b)))) := by
        have z13 : c 0 + c 1 + c 2 < 14 := by
          have a := (h.1 0 (by decide)).1
          have b := (h.1 1 (by decide)).1
          have d := (h.1 2 (by decide)).1
          unfold cap at a b d lt'
          simp at a b d
          match s, hs with
          | 0, _ => simp at lt'; omega
          | 1, _ => simp at lt'; omega
          | 2, _ => simp at lt'; omega
        unfold zf_Names_tell
        rw [h.2.1, zo_n (by omega), zo_1 (by omega)]
        refine zp_ite (fun q => ?_) fun _ => zp_ite (fun q => ?_) fun _ => zp_chk fun _ => zp_chk fun _ => zp_chk fun _ => zp_some rfl
        · have := (zo_lt (k := c 0 + c 1 + c 2) (j := 0) (by omega) (by omega)).mp q
          omega
        · have := (zo_le (k := 14) (j := c 0 + c 1 + c 2) (by omega) (by omega)).mp q
          omega
      refine zp_bind (zp_mono tl fun r5 h5 => ?_)
      subst h5
      have sx5 : SX T b (zx_up (zx_up (zx_up ρ 20 (c 0 + c 1 + c 2) (Int32.ofNat s)) 21 (c 0 + c 1 + c 2) (Int32.ofNat (c s))) 18 3 (Int32.ofNat (c 0 + c 1 + c 2 + 1))) (zx_up τ 19 (c 0 + c 1 + c 2) (T.2.2.1 b)) := sx.of (by rw [zu_other (by decide), zu_other (by decide), zu_other (by decide)]) (by rw [zu_other (by decide), zu_other (by decide), zu_other (by decide)]) (by rw [zu_other (by decide), zu_other (by decide), zu_other (by decide)]) (by rw [zu_other (by decide), zu_other (by decide), zu_other (by decide)]) (zt_other (by decide)) (zt_other (by decide))
      refine zp_bind (zp_mono (sx5.adv tb (by rw [k3]; decide)) ?_)
      rintro r6 ⟨x1, x2, x3⟩
      dsimp only at x2 x3
      refine zp_some (Or.inr ⟨rfl, k3, lt', x1, no, ⟨fun q a1 a2 a3 a4 => ?_, fun i hi => ?_, ?_, ?_, fun j hj => ?_, ?_, fun j hj => ?_, ?_, fun j hj => ?_, fun q a1 a2 => ?_⟩, m⟩) <;> dsimp only
      · rw [x2.1 q a4, zu_other a1, zu_other a3, zu_other a2]
      · rw [x2.1 18 (by decide), zx_up_same, zu_ne hi, zu_other (by decide), zu_other (by decide)]
      · rw [x2.1 18 (by decide), zx_up_same, zu_eq]
      · rw [x2.1 20 (by decide), zu_other (by decide), zu_other (by decide), zx_up_same, zu_eq]
      · rw [x2.1 20 (by decide), zu_other (by decide), zu_other (by decide), zx_up_same, zu_ne hj]
      · rw [x2.1 21 (by decide), zu_other (by decide), zx_up_same, zu_eq]
      · rw [x2.1 21 (by decide), zu_other (by decide), zx_up_same, zu_ne hj, zu_other (by decide)]
      · rw [x3 19 (by decide), zt_at]
      · rw [x3 19 (by decide), zt_ne hj]
      · rw [x3 q a2, zt_other a1]
    · have : ¬ c s < cap s := fun x => ge ((zo_lt (by omega) (by omega)).mpr x)
      omega
  · exact zp_ite (fun q => absurd q ne) fun _ => fl 3 (by decide) fun r e x => Or.inl ⟨e, x, Or.inr (Or.inl ⟨k3, m⟩)⟩
