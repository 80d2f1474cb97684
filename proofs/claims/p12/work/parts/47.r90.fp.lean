-- both answer alike
set_option maxRecDepth 2000
def FTT (σ0 σ : zS) : Prop := σ 2 16 = σ0 2 16 ∧ σ 81 = σ0 81
theorem FTT.rfl' {σ : zS} : FTT σ σ := ⟨rfl, rfl⟩
theorem FTT.up {σ0 σ : zS} {p i : Nat} {x : Int32} (hp : 2 ≠ p ∧ 81 ≠ p) (h : FTT σ0 σ) : FTT σ0 (zx_up σ p i x) := ⟨by rw [zu_other hp.1]; exact h.1, by rw [zu_other hp.2]; exact h.2⟩
theorem FTT.cp {σ0 σ : zS} {p q : Nat} {a b c : Int32} (hq : 2 ≠ q ∧ 81 ≠ q) (h : FTT σ0 σ) : FTT σ0 (zJ_copy σ p q a b c) := ⟨by rw [zJ_copy_ne hq.1]; exact h.1, by rw [zJ_copy_ne hq.2]; exact h.2⟩
def FU (σ0 σ : zS) : Prop := σ 82 62 = σ0 82 62 ∧ σ 116 = σ0 116
theorem FU.rfl' {σ : zS} : FU σ σ := ⟨rfl, rfl⟩
theorem FU.up {σ0 σ : zS} {p i : Nat} {x : Int32} (hp : 82 ≠ p ∧ 116 ≠ p) (h : FU σ0 σ) : FU σ0 (zx_up σ p i x) := ⟨by rw [zu_other hp.1]; exact h.1, by rw [zu_other hp.2]; exact h.2⟩
theorem FU.u8 {σ0 σ : zS} {i : Nat} {x : Int32} (hi : 62 ≠ i) (h : FU σ0 σ) : FU σ0 (zx_up σ 82 i x) := ⟨by rw [zx_up_same, zu_ne hi]; exact h.1, by rw [zu_other (by decide)]; exact h.2⟩
theorem xt_b_Arrays_fill_c3_5 {σ0 : zS} {N : Nat}  : ∀ (n : Nat) (σ : zS) (v1 : Int32) (v2 : Int32) (v3 : Int32), FTT σ0 σ → zp (zb_Arrays_fill_c3_5 N n σ v1 v2 v3) (fun r => FTT σ0 r) := by
  intro n
  induction n with
  | zero => intro _ _ _ _ _; exact zp_none
  | succ n ih =>
    intro σ v1 v2 v3 hs
    rw [zb_Arrays_fill_c3_5]
    refine zp_ite (fun _ => ?_) fun _ => ?_
    ·
      exact zp_some hs
    ·
      refine zp_chk fun _ => ?_
      exact ih _ _ _ _ (FTT.up (by decide) hs)
theorem xt_f_Arrays_fill_c3 {σ0 : zS} {N : Nat} {σ : zS} {x2 : Int32}  (hs : FTT σ0 σ) : zp (zf_Arrays_fill_c3 N σ x2) (fun r => FTT σ0 r) := by
  unfold zf_Arrays_fill_c3
  exact xt_b_Arrays_fill_c3_5  _ _ _ _ _ hs
theorem xt_b_Machine_setFirst_50 {σ0 : zS} {k15 : zS → Int32 → Option (zS)} {N : Nat} {σ : zS} {v1 : Int32} {v2 : Int32} (hk15 : ∀ (y0 : zS) (y1 : Int32), FTT σ0 y0 → zp (k15 y0 y1) (fun r => FTT σ0 r)) (hs : FTT σ0 σ) : zp (zb_Machine_setFirst_50 k15 N σ v1 v2) (fun r => FTT σ0 r) := by
  unfold zb_Machine_setFirst_50
  refine zp_chk fun _ => ?_
  exact hk15 _ _ (FTT.up (by decide) hs)
theorem xt_b_Machine_setFirst_36 {σ0 : zS} {k15 : zS → Int32 → Option (zS)} {N : Nat} {σ : zS} {v1 : Int32} {s0 : Int32} (hk15 : ∀ (y0 : zS) (y1 : Int32), FTT σ0 y0 → zp (k15 y0 y1) (fun r => FTT σ0 r)) (hs : FTT σ0 σ) : zp (zb_Machine_setFirst_36 k15 N σ v1 s0) (fun r => FTT σ0 r) := by
  unfold zb_Machine_setFirst_36
  refine zp_bind fun r4 _ => ?_
  refine zp_ite (fun _ => ?_) fun _ => ?_
  ·
    exact xt_b_Machine_setFirst_50 (hk15) hs
  ·
    exact xt_b_Machine_setFirst_50 (hk15) hs
theorem xt_b_Machine_setFirst_15 {σ0 : zS} {N : Nat}  : ∀ (n : Nat) (σ : zS) (v1 : Int32), FTT σ0 σ → zp (zb_Machine_setFirst_15 N n σ v1) (fun r => FTT σ0 r) := by
  intro n
  induction n with
  | zero => intro _ _ _; exact zp_none
  | succ n ih =>
    intro σ v1 hs
    rw [zb_Machine_setFirst_15]
    refine zp_ite (fun _ => ?_) fun _ => ?_
    ·
      exact zp_some hs
    ·
      refine zp_bind fun r2 _ => ?_
      refine zp_ite (fun _ => ?_) fun _ => ?_
      ·
        exact xt_b_Machine_setFirst_36 (ih) hs
      ·
        exact xt_b_Machine_setFirst_36 (ih) hs
theorem xt_f_Machine_setFirst {σ0 : zS} {N : Nat} {σ : zS}  (hs : FTT σ0 σ) : zp (zf_Machine_setFirst N σ) (fun r => FTT σ0 r) := by
  unfold zf_Machine_setFirst
  exact xt_b_Machine_setFirst_15  _ _ _ (FTT.up (by decide) hs)
theorem xt_f_Space_note {σ0 : zS} {N : Nat} {σ : zS} {x1 : Int32}  (hs : FTT σ0 σ) : zp (zf_Space_note N σ x1) (fun r => FTT σ0 r.2) := by
  unfold zf_Space_note
  refine zp_bind fun r1 _ => ?_
  refine zp_chk fun _ => ?_
  refine zp_ite (fun _ => ?_) fun _ => ?_
  ·
    refine zp_ite (fun _ => ?_) fun _ => ?_
    ·
      exact zp_some hs
    ·
      refine zp_ite (fun _ => ?_) fun _ => ?_
      ·
        refine zp_chk fun _ => ?_
        refine zp_chk fun _ => ?_
        refine zp_chk fun _ => ?_
        exact zp_some (FTT.up (by decide) (FTT.up (by decide) (FTT.up (by decide) (FTT.cp (by decide) hs))))
      ·
        exact zp_some hs
  ·
    exact zp_some hs
theorem xt_b_Arrays_fill_c4_5 {σ0 : zS} {N : Nat}  : ∀ (n : Nat) (σ : zS) (v1 : Int32) (v2 : Int32) (v3 : Int32), FTT σ0 σ → zp (zb_Arrays_fill_c4_5 N n σ v1 v2 v3) (fun r => FTT σ0 r) := by
  intro n
  induction n with
  | zero => intro _ _ _ _ _; exact zp_none
  | succ n ih =>
    intro σ v1 v2 v3 hs
    rw [zb_Arrays_fill_c4_5]
    refine zp_ite (fun _ => ?_) fun _ => ?_
    ·
      exact zp_some hs
    ·
      refine zp_chk fun _ => ?_
      exact ih _ _ _ _ (FTT.up (by decide) hs)
theorem xt_f_Arrays_fill_c4 {σ0 : zS} {N : Nat} {σ : zS} {x2 : Int32}  (hs : FTT σ0 σ) : zp (zf_Arrays_fill_c4 N σ x2) (fun r => FTT σ0 r) := by
  unfold zf_Arrays_fill_c4
  exact xt_b_Arrays_fill_c4_5  _ _ _ _ _ hs
theorem xt_b_Machine_load_130 {σ0 : zS} {k34 : zS → Int32 → Option (zS)} {N : Nat} {σ : zS} {v3 : Int32} (hk34 : ∀ (y0 : zS) (y1 : Int32), FTT σ0 y0 → zp (k34 y0 y1) (fun r => FTT σ0 r)) (hs : FTT σ0 σ) : zp (zb_Machine_load_130 k34 N σ v3) (fun r => FTT σ0 r) := by
  unfold zb_Machine_load_130
  exact hk34 _ _ hs
theorem xt_b_Machine_load_124 {σ0 : zS} {k95 : zS → Int32 → Int32 → Int32 → Option (zS)} {N : Nat} {σ : zS} {v3 : Int32} {v5 : Int32} {v6 : Int32} (hk95 : ∀ (y0 : zS) (y1 : Int32) (y2 : Int32) (y3 : Int32), FTT σ0 y0 → zp (k95 y0 y1 y2 y3) (fun r => FTT σ0 r)) (hs : FTT σ0 σ) : zp (zb_Machine_load_124 k95 N σ v3 v5 v6) (fun r => FTT σ0 r) := by
  unfold zb_Machine_load_124
  exact hk95 _ _ _ _ hs
theorem xt_b_Machine_load_95 {σ0 : zS} {k34 : zS → Int32 → Option (zS)} {N : Nat} (hk34 : ∀ (y0 : zS) (y1 : Int32), FTT σ0 y0 → zp (k34 y0 y1) (fun r => FTT σ0 r)) : ∀ (n : Nat) (σ : zS) (v3 : Int32) (v5 : Int32) (v6 : Int32), FTT σ0 σ → zp (zb_Machine_load_95 k34 N n σ v3 v5 v6) (fun r => FTT σ0 r) := by
  intro n
  induction n with
  | zero => intro _ _ _ _ _; exact zp_none
  | succ n ih =>
    intro σ v3 v5 v6 hs
    rw [zb_Machine_load_95]
    refine zp_ite (fun _ => ?_) fun _ => ?_
    ·
      exact xt_b_Machine_load_130 (hk34) hs
    ·
      refine zp_ite (fun _ => ?_) fun _ => ?_
      ·
        exact xt_b_Machine_load_130 (hk34) hs
      ·
        refine zp_ite (fun _ => ?_) fun _ => ?_
        ·
          exact xt_b_Machine_load_124 (ih) hs
        ·
          refine zp_chk fun _ => ?_
          exact xt_b_Machine_load_124 (ih) (FTT.up (by decide) hs)
theorem xt_b_Machine_load_34 {σ0 : zS} {N : Nat}  : ∀ (n : Nat) (σ : zS) (v3 : Int32), FTT σ0 σ → zp (zb_Machine_load_34 N n σ v3) (fun r => FTT σ0 r) := by
  intro n
  induction n with
  | zero => intro _ _ _; exact zp_none
  | succ n ih =>
    intro σ v3 hs
    rw [zb_Machine_load_34]
    refine zp_ite (fun _ => ?_) fun _ => ?_
    ·
      exact zp_some hs
    ·
      refine zp_chk fun _ => ?_
      refine zp_chk fun _ => ?_
      refine zp_bind fun r8 _ => ?_
      refine zp_chk fun _ => ?_
      refine zp_bind fun r10 _ => ?_
      exact xt_b_Machine_load_95 (ih) _ _ _ _ _ (FTT.up (by decide) (FTT.up (by decide) hs))
theorem xt_f_Machine_load {σ0 : zS} {N : Nat} {σ : zS} {x2 : Int32}  (hs : FTT σ0 σ) : zp (zf_Machine_load N σ x2) (fun r => FTT σ0 r) := by
  unfold zf_Machine_load
  refine zp_ite (fun _ => ?_) fun _ => ?_
  ·
    exact zp_some hs
  ·
    refine zp_ite (fun _ => ?_) fun _ => ?_
    ·
      refine zp_chk fun _ => ?_
      refine zp_bind (zp_mono (xt_f_Arrays_fill_c4  (FTT.cp (by decide) hs)) fun r4 hr4 => ?_)
      exact xt_b_Machine_load_34  _ _ _ hr4
    ·
      exact zp_some hs
theorem xt_f_Space_load {σ0 : zS} {N : Nat} {σ : zS} {x1 : Int32}  (hs : FTT σ0 σ) : zp (zf_Space_load N σ x1) (fun r => FTT σ0 r) := by
  unfold zf_Space_load
  refine zp_bind fun r1 _ => ?_
  refine zp_ite (fun _ => ?_) fun _ => ?_
  ·
    exact zp_some hs
  ·
    refine zp_bind (zp_mono (xt_f_Machine_load  hs) fun r3 hr3 => ?_)
    exact zp_some hr3
theorem xt_b_Machine_place_30 {σ0 : zS} {σ : zS} {v1 : Int32} {v2 : Int32} {v3 : Int32} {s0 : Int32}  (hs : FTT σ0 σ) : zp (zb_Machine_place_30 σ v1 v2 v3 s0) (fun r => FTT σ0 r) := by
  unfold zb_Machine_place_30
  refine zp_ite (fun _ => ?_) fun _ => ?_
  ·
    exact zp_some hs
  ·
    refine zp_ite (fun _ => ?_) fun _ => ?_
    ·
      exact zp_some hs
    ·
      refine zp_chk fun _ => ?_
      refine zp_chk fun _ => ?_
      exact zp_some (FTT.up (by decide) hs)
theorem xt_b_Machine_place_15 {σ0 : zS} {σ : zS} {v1 : Int32} {v2 : Int32} {v3 : Int32} {s0 : Int32}  (hs : FTT σ0 σ) : zp (zb_Machine_place_15 σ v1 v2 v3 s0) (fun r => FTT σ0 r) := by
  unfold zb_Machine_place_15
  refine zp_ite (fun _ => ?_) fun _ => ?_
  ·
    exact xt_b_Machine_place_30  hs
  ·
    exact xt_b_Machine_place_30  hs
theorem xt_b_Machine_place_10 {σ0 : zS} {σ : zS} {v1 : Int32} {v2 : Int32} {v3 : Int32}  (hs : FTT σ0 σ) : zp (zb_Machine_place_10 σ v1 v2 v3) (fun r => FTT σ0 r) := by
  unfold zb_Machine_place_10
  exact xt_b_Machine_place_15  hs
theorem xt_f_Machine_place {σ0 : zS} {σ : zS} {x1 : Int32} {x2 : Int32} {x3 : Int32}  (hs : FTT σ0 σ) : zp (zf_Machine_place σ x1 x2 x3) (fun r => FTT σ0 r) := by
  unfold zf_Machine_place
  refine zp_ite (fun _ => ?_) fun _ => ?_
  ·
    exact xt_b_Machine_place_10  hs
  ·
    refine zp_ite (fun _ => ?_) fun _ => ?_
    ·
      exact xt_b_Machine_place_15  hs
    ·
      exact xt_b_Machine_place_10  hs
theorem xt_b_Machine_goTo_49 {σ0 : zS} {σ : zS} {s0 : Int32} {s1 : Int32} {s2 : Int32}  (hs : FTT σ0 σ) : zp (zb_Machine_goTo_49 σ s0 s1 s2) (fun r => FTT σ0 r) := by
  unfold zb_Machine_goTo_49
  refine zp_bind (zp_mono (xt_f_Machine_place  hs) fun r4 hr4 => ?_)
  exact zp_some hr4
theorem xt_b_Machine_goTo_40 {σ0 : zS} {σ : zS} {v3 : Int32} {s0 : Int32} {s1 : Int32}  (hs : FTT σ0 σ) : zp (zb_Machine_goTo_40 σ v3 s0 s1) (fun r => FTT σ0 r) := by
  unfold zb_Machine_goTo_40
  refine zp_ite (fun _ => ?_) fun _ => ?_
  ·
    exact xt_b_Machine_goTo_49  hs
  ·
    exact xt_b_Machine_goTo_49  hs
theorem xt_b_Machine_goTo_21 {σ0 : zS} {σ : zS} {v1 : Int32} {v2 : Int32} {s0 : Int32}  (hs : FTT σ0 σ) : zp (zb_Machine_goTo_21 σ v1 v2 s0) (fun r => FTT σ0 r) := by
  unfold zb_Machine_goTo_21
  refine zp_ite (fun _ => ?_) fun _ => ?_
  ·
    exact xt_b_Machine_goTo_40  hs
  ·
    refine zp_bind fun r5 _ => ?_
    exact xt_b_Machine_goTo_40  hs
theorem xt_b_Machine_goTo_16 {σ0 : zS} {σ : zS} {v1 : Int32} {v2 : Int32}  (hs : FTT σ0 σ) : zp (zb_Machine_goTo_16 σ v1 v2) (fun r => FTT σ0 r) := by
  unfold zb_Machine_goTo_16
  exact xt_b_Machine_goTo_21  hs
theorem xt_f_Machine_goTo {σ0 : zS} {σ : zS} {x1 : Int32} {x2 : Int32}  (hs : FTT σ0 σ) : zp (zf_Machine_goTo σ x1 x2) (fun r => FTT σ0 r) := by
  unfold zf_Machine_goTo
  refine zp_ite (fun _ => ?_) fun _ => ?_
  ·
    exact xt_b_Machine_goTo_16  hs
  ·
    refine zp_bind fun r6 _ => ?_
    refine zp_ite (fun _ => ?_) fun _ => ?_
    ·
      exact xt_b_Machine_goTo_21  hs
    ·
      exact xt_b_Machine_goTo_16  hs
theorem xt_f_Machine_startThread {σ0 : zS} {σ : zS} {x1 : Int32}  (hs : FTT σ0 σ) : zp (zf_Machine_startThread σ x1) (fun r => FTT σ0 r.2) := by
  unfold zf_Machine_startThread
  refine zp_bind fun r1 _ => ?_
  refine zp_ite (fun _ => ?_) fun _ => ?_
  ·
    refine zp_bind (zp_mono (xt_f_Machine_goTo  hs) fun r3 hr3 => ?_)
    exact zp_some hr3
  ·
    exact zp_some hs
theorem xt_b_Machine_signal_121 {σ0 : zS} {k49 : zS → Int32 → Int32 → Int32 → Int32 → Option (Int32 × zS)} {N : Nat} {σ : zS} {v3 : Int32} {v4 : Int32} {v5 : Int32} {v6 : Int32} (hk49 : ∀ (y0 : zS) (y1 : Int32) (y2 : Int32) (y3 : Int32) (y4 : Int32), FTT σ0 y0 → zp (k49 y0 y1 y2 y3 y4) (fun r => FTT σ0 r.2)) (hs : FTT σ0 σ) : zp (zb_Machine_signal_121 k49 N σ v3 v4 v5 v6) (fun r => FTT σ0 r.2) := by
  unfold zb_Machine_signal_121
  exact hk49 _ _ _ _ _ hs
theorem xt_b_Machine_signal_119 {σ0 : zS} {k49 : zS → Int32 → Int32 → Int32 → Int32 → Option (Int32 × zS)} {N : Nat} {σ : zS} {v3 : Int32} {v4 : Int32} {v6 : Int32} {s0 : Int32} (hk49 : ∀ (y0 : zS) (y1 : Int32) (y2 : Int32) (y3 : Int32) (y4 : Int32), FTT σ0 y0 → zp (k49 y0 y1 y2 y3 y4) (fun r => FTT σ0 r.2)) (hs : FTT σ0 σ) : zp (zb_Machine_signal_119 k49 N σ v3 v4 v6 s0) (fun r => FTT σ0 r.2) := by
  unfold zb_Machine_signal_119
  exact xt_b_Machine_signal_121 (hk49) hs
theorem xt_b_Machine_signal_49 {σ0 : zS} {N : Nat}  : ∀ (n : Nat) (σ : zS) (v3 : Int32) (v4 : Int32) (v5 : Int32) (v6 : Int32), FTT σ0 σ → zp (zb_Machine_signal_49 N n σ v3 v4 v5 v6) (fun r => FTT σ0 r.2) := by
  intro n
  induction n with
  | zero => intro _ _ _ _ _ _; exact zp_none
  | succ n ih =>
    intro σ v3 v4 v5 v6 hs
    rw [zb_Machine_signal_49]
    refine zp_ite (fun _ => ?_) fun _ => ?_
    ·
      exact zp_some hs
    ·
      refine zp_ite (fun _ => ?_) fun _ => ?_
      ·
        exact zp_some hs
      ·
        refine zp_bind fun r8 _ => ?_
        refine zp_ite (fun _ => ?_) fun _ => ?_
        ·
          exact xt_b_Machine_signal_121 (ih) hs
        ·
          refine zp_bind fun r10 _ => ?_
          refine zp_chk fun _ => ?_
          refine zp_ite (fun _ => ?_) fun _ => ?_
          ·
            exact xt_b_Machine_signal_121 (ih) hs
          ·
            refine zp_bind fun r13 _ => ?_
            refine zp_bind (zp_mono (xt_f_Machine_place  hs) fun r14 hr14 => ?_)
            refine zp_ite (fun _ => ?_) fun _ => ?_
            ·
              exact xt_b_Machine_signal_119 (ih) hr14
            ·
              exact xt_b_Machine_signal_119 (ih) hr14
theorem xt_b_Machine_signal_44 {σ0 : zS} {N : Nat} {σ : zS} {v3 : Int32} {v4 : Int32} {s0 : Int32}  (hs : FTT σ0 σ) : zp (zb_Machine_signal_44 N σ v3 v4 s0) (fun r => FTT σ0 r.2) := by
  unfold zb_Machine_signal_44
  exact xt_b_Machine_signal_49  _ _ _ _ _ _ hs
theorem xt_f_Machine_signal {σ0 : zS} {N : Nat} {σ : zS} {x1 : Int32} {x2 : Int32}  (hs : FTT σ0 σ) : zp (zf_Machine_signal N σ x1 x2) (fun r => FTT σ0 r.2) := by
  unfold zf_Machine_signal
  refine zp_chk fun _ => ?_
  refine zp_chk fun _ => ?_
  refine zp_bind fun r3 _ => ?_
  refine zp_ite (fun _ => ?_) fun _ => ?_
  ·
    refine zp_ite (fun _ => ?_) fun _ => ?_
    ·
      exact xt_b_Machine_signal_44  hs
    ·
      exact xt_b_Machine_signal_44  hs
  ·
    exact zp_some hs
theorem xt_b_Machine_work_150 {σ0 : zS} {σ : zS} {v4 : Int32} {v6 : Int32} {s0 : Int32} {s1 : Int32}  (hs : FTT σ0 σ) : zp (zb_Machine_work_150 σ v4 v6 s0 s1) (fun r => FTT σ0 r) := by
  unfold zb_Machine_work_150
  refine zp_ite (fun _ => ?_) fun _ => ?_
  ·
    exact zp_some hs
  ·
    refine zp_ite (fun _ => ?_) fun _ => ?_
    ·
      exact zp_some hs
    ·
      refine zp_chk fun _ => ?_
      refine zp_chk fun _ => ?_
      exact zp_some (FTT.up (by decide) hs)
theorem xt_b_Machine_work_121 {σ0 : zS} {σ : zS} {v2 : Int32} {v3 : Int32} {v4 : Int32} {s0 : Int32}  (hs : FTT σ0 σ) : zp (zb_Machine_work_121 σ v2 v3 v4 s0) (fun r => FTT σ0 r) := by
  unfold zb_Machine_work_121
  refine zp_ite (fun _ => ?_) fun _ => ?_
  ·
    refine zp_chk fun _ => ?_
    exact xt_b_Machine_work_150  hs
  ·
    refine zp_chk fun _ => ?_
    exact xt_b_Machine_work_150  hs
theorem xt_b_Machine_work_109 {σ0 : zS} {σ : zS} {v1 : Int32} {v2 : Int32} {v3 : Int32} {v4 : Int32}  (hs : FTT σ0 σ) : zp (zb_Machine_work_109 σ v1 v2 v3 v4) (fun r => FTT σ0 r) := by
  unfold zb_Machine_work_109
  refine zp_ite (fun _ => ?_) fun _ => ?_
  ·
    exact xt_b_Machine_work_121  hs
  ·
    exact xt_b_Machine_work_121  hs
theorem xt_f_Machine_work {σ0 : zS} {σ : zS} {x1 : Int32} {x2 : Int32}  (hs : FTT σ0 σ) : zp (zf_Machine_work σ x1 x2) (fun r => FTT σ0 r) := by
  unfold zf_Machine_work
  refine zp_chk fun _ => ?_
  refine zp_chk fun _ => ?_
  refine zp_bind fun r3 _ => ?_
  refine zp_chk fun _ => ?_
  refine zp_bind fun r5 _ => ?_
  refine zp_ite (fun _ => ?_) fun _ => ?_
  ·
    refine zp_chk fun _ => ?_
    refine zp_ite (fun _ => ?_) fun _ => ?_
    ·
      refine zp_chk fun _ => ?_
      refine zp_ite (fun _ => ?_) fun _ => ?_
      ·
        exact xt_b_Machine_work_109  hs
      ·
        exact xt_b_Machine_work_109  hs
    ·
      exact xt_b_Machine_work_109  hs
  ·
    refine zp_chk fun _ => ?_
    refine zp_bind fun r20 _ => ?_
    exact xt_b_Machine_work_109  hs
theorem xt_b_Machine_move_317 {σ0 : zS} {N : Nat} {σ : zS} {v1 : Int32} {v6 : Int32}  (hs : FTT σ0 σ) : zp (zb_Machine_move_317 N σ v1 v6) (fun r => FTT σ0 r) := by
  unfold zb_Machine_move_317
  refine zp_bind (zp_mono (xt_f_Machine_goTo  hs) fun r28 hr28 => ?_)
  exact zp_some hr28
theorem xt_b_Machine_move_261 {σ0 : zS} {N : Nat} {σ : zS} {v1 : Int32} {v3 : Int32} {v5 : Int32} {v6 : Int32}  (hs : FTT σ0 σ) : zp (zb_Machine_move_261 N σ v1 v3 v5 v6) (fun r => FTT σ0 r) := by
  unfold zb_Machine_move_261
  refine zp_ite (fun _ => ?_) fun _ => ?_
  ·
    refine zp_bind fun r26 _ => ?_
    refine zp_ite (fun _ => ?_) fun _ => ?_
    ·
      exact xt_b_Machine_move_317  hs
    ·
      refine zp_chk fun _ => ?_
      refine zp_ite (fun _ => ?_) fun _ => ?_
      ·
        exact xt_b_Machine_move_317  hs
      ·
        refine zp_bind fun r31 _ => ?_
        refine zp_bind (zp_mono (xt_f_Machine_place  hs) fun r32 hr32 => ?_)
        exact zp_some hr32
  ·
    refine zp_bind fun r33 _ => ?_
    refine zp_bind (zp_mono (xt_f_Machine_place  hs) fun r34 hr34 => ?_)
    exact zp_some hr34
theorem xt_b_Machine_move_216 {σ0 : zS} {N : Nat} {σ : zS} {v1 : Int32} {v3 : Int32} {v5 : Int32} {s0 : Int32}  (hs : FTT σ0 σ) : zp (zb_Machine_move_216 N σ v1 v3 v5 s0) (fun r => FTT σ0 r) := by
  unfold zb_Machine_move_216
  exact xt_b_Machine_move_261  hs
theorem xt_b_Machine_move_116 {σ0 : zS} {N : Nat} {σ : zS} {v1 : Int32} {v3 : Int32} {v5 : Int32} {v6 : Int32} {s0 : Int32}  (hs : FTT σ0 σ) : zp (zb_Machine_move_116 N σ v1 v3 v5 v6 s0) (fun r => FTT σ0 r) := by
  unfold zb_Machine_move_116
  refine zp_ite (fun _ => ?_) fun _ => ?_
  ·
    refine zp_bind (zp_mono (xt_f_Machine_work  hs) fun r49 hr49 => ?_)
    exact xt_b_Machine_move_261  hr49
  ·
    refine zp_ite (fun _ => ?_) fun _ => ?_
    ·
      refine zp_bind (zp_mono (xt_f_Machine_work  hs) fun r48 hr48 => ?_)
      exact xt_b_Machine_move_261  hr48
    ·
      refine zp_ite (fun _ => ?_) fun _ => ?_
      ·
        refine zp_bind (zp_mono (xt_f_Machine_work  hs) fun r47 hr47 => ?_)
        exact xt_b_Machine_move_261  hr47
      ·
        refine zp_ite (fun _ => ?_) fun _ => ?_
        ·
          exact xt_b_Machine_move_261  hs
        ·
          refine zp_ite (fun _ => ?_) fun _ => ?_
          ·
            exact xt_b_Machine_move_261  hs
          ·
            refine zp_ite (fun _ => ?_) fun _ => ?_
            ·
              refine zp_bind fun r44 _ => ?_
              refine zp_ite (fun _ => ?_) fun _ => ?_
              ·
                refine zp_chk fun _ => ?_
                exact xt_b_Machine_move_216  hs
              ·
                exact xt_b_Machine_move_216  hs
            ·
              refine zp_ite (fun _ => ?_) fun _ => ?_
              ·
                refine zp_bind fun r41 _ => ?_
                refine zp_ite (fun _ => ?_) fun _ => ?_
                ·
                  refine zp_chk fun _ => ?_
                  exact xt_b_Machine_move_216  hs
                ·
                  exact xt_b_Machine_move_216  hs
              ·
                refine zp_ite (fun _ => ?_) fun _ => ?_
                ·
                  refine zp_bind (zp_mono (xt_f_Machine_signal  hs) fun r40 hr40 => ?_)
                  exact xt_b_Machine_move_261  hr40
                ·
                  refine zp_ite (fun _ => ?_) fun _ => ?_
                  ·
                    refine zp_bind (zp_mono (xt_f_Machine_signal  hs) fun r39 hr39 => ?_)
                    exact xt_b_Machine_move_261  hr39
                  ·
                    refine zp_ite (fun _ => ?_) fun _ => ?_
                    ·
                      refine zp_bind (zp_mono (xt_f_Machine_signal  hs) fun r38 hr38 => ?_)
                      exact xt_b_Machine_move_261  hr38
                    ·
                      refine zp_ite (fun _ => ?_) fun _ => ?_
                      ·
                        refine zp_chk fun _ => ?_
                        refine zp_bind (zp_mono (xt_f_Machine_startThread  hs) fun r37 hr37 => ?_)
                        exact xt_b_Machine_move_261  hr37
                      ·
                        refine zp_ite (fun _ => ?_) fun _ => ?_
                        ·
                          exact xt_b_Machine_move_261  hs
                        ·
                          refine zp_ite (fun _ => ?_) fun _ => ?_
                          ·
                            refine zp_bind fun r35 _ => ?_
                            exact xt_b_Machine_move_261  hs
                          ·
                            exact xt_b_Machine_move_261  hs
theorem xt_b_Machine_move_39 {σ0 : zS} {N : Nat} {σ : zS} {v1 : Int32} {v3 : Int32} {s0 : Int32}  (hs : FTT σ0 σ) : zp (zb_Machine_move_39 N σ v1 v3 s0) (fun r => FTT σ0 r) := by
  unfold zb_Machine_move_39
  refine zp_chk fun _ => ?_
  refine zp_chk fun _ => ?_
  refine zp_chk fun _ => ?_
  refine zp_bind fun r9 _ => ?_
  refine zp_ite (fun _ => ?_) fun _ => ?_
  ·
    refine zp_chk fun _ => ?_
    exact xt_b_Machine_move_116  (FTT.up (by decide) (FTT.cp (by decide) hs))
  ·
    exact xt_b_Machine_move_116  (FTT.up (by decide) (FTT.cp (by decide) hs))
theorem xt_b_Machine_move_38 {σ0 : zS} {N : Nat} {σ : zS} {v1 : Int32} {v3 : Int32}  (hs : FTT σ0 σ) : zp (zb_Machine_move_38 N σ v1 v3) (fun r => FTT σ0 r) := by
  unfold zb_Machine_move_38
  exact xt_b_Machine_move_39  hs
theorem xt_f_Machine_move {σ0 : zS} {N : Nat} {σ : zS} {x1 : Int32} {x2 : Int32}  (hs : FTT σ0 σ) : zp (zf_Machine_move N σ x1 x2) (fun r => FTT σ0 r) := by
  unfold zf_Machine_move
  refine zp_ite (fun _ => ?_) fun _ => ?_
  ·
    exact zp_some hs
  ·
    refine zp_ite (fun _ => ?_) fun _ => ?_
    ·
      refine zp_bind fun r3 _ => ?_
      refine zp_ite (fun _ => ?_) fun _ => ?_
      ·
        exact xt_b_Machine_move_38  hs
      ·
        refine zp_chk fun _ => ?_
        refine zp_ite (fun _ => ?_) fun _ => ?_
        ·
          exact xt_b_Machine_move_38  hs
        ·
          exact xt_b_Machine_move_39  hs
    ·
      exact zp_some hs
theorem xt_b_Space_exploreFrom_95 {σ0 : zS} {k20 : zS → Int32 → Int32 → Int32 → Int32 → Int32 → Option (Int32 × zS)} {N : Nat} {σ : zS} {v1 : Int32} {v2 : Int32} {v3 : Int32} {v4 : Int32} {v5 : Int32} (hk20 : ∀ (y0 : zS) (y1 : Int32) (y2 : Int32) (y3 : Int32) (y4 : Int32) (y5 : Int32), FTT σ0 y0 → zp (k20 y0 y1 y2 y3 y4 y5) (fun r => FTT σ0 r.2)) (hs : FTT σ0 σ) : zp (zb_Space_exploreFrom_95 k20 N σ v1 v2 v3 v4 v5) (fun r => FTT σ0 r.2) := by
  unfold zb_Space_exploreFrom_95
  exact hk20 _ _ _ _ _ _ hs
theorem xt_b_Space_exploreFrom_48 {σ0 : zS} {k20 : zS → Int32 → Int32 → Int32 → Int32 → Int32 → Option (Int32 × zS)} {N : Nat} {σ : zS} {v1 : Int32} {v2 : Int32} {v3 : Int32} {v4 : Int32} {v5 : Int32} {s0 : Int32} (hk20 : ∀ (y0 : zS) (y1 : Int32) (y2 : Int32) (y3 : Int32) (y4 : Int32) (y5 : Int32), FTT σ0 y0 → zp (k20 y0 y1 y2 y3 y4 y5) (fun r => FTT σ0 r.2)) (hs : FTT σ0 σ) : zp (zb_Space_exploreFrom_48 k20 N σ v1 v2 v3 v4 v5 s0) (fun r => FTT σ0 r.2) := by
  unfold zb_Space_exploreFrom_48
  refine zp_ite (fun _ => ?_) fun _ => ?_
  ·
    exact xt_b_Space_exploreFrom_95 (hk20) hs
  ·
    refine zp_bind fun r9 _ => ?_
    refine zp_ite (fun _ => ?_) fun _ => ?_
    ·
      exact xt_b_Space_exploreFrom_95 (hk20) hs
    ·
      refine zp_bind (zp_mono (xt_f_Machine_move  hs) fun r11 hr11 => ?_)
      refine zp_bind (zp_mono (xt_f_Space_note  hr11) fun r12 hr12 => ?_)
      refine zp_ite (fun _ => ?_) fun _ => ?_
      ·
        exact xt_b_Space_exploreFrom_95 (hk20) hr12
      ·
        exact zp_some hr12
theorem xt_b_Space_exploreFrom_43 {σ0 : zS} {k20 : zS → Int32 → Int32 → Int32 → Int32 → Int32 → Option (Int32 × zS)} {N : Nat} {σ : zS} {v1 : Int32} {v2 : Int32} {v3 : Int32} {v4 : Int32} {v5 : Int32} (hk20 : ∀ (y0 : zS) (y1 : Int32) (y2 : Int32) (y3 : Int32) (y4 : Int32) (y5 : Int32), FTT σ0 y0 → zp (k20 y0 y1 y2 y3 y4 y5) (fun r => FTT σ0 r.2)) (hs : FTT σ0 σ) : zp (zb_Space_exploreFrom_43 k20 N σ v1 v2 v3 v4 v5) (fun r => FTT σ0 r.2) := by
  unfold zb_Space_exploreFrom_43
  exact xt_b_Space_exploreFrom_48 (hk20) hs
theorem xt_b_Space_exploreFrom_20 {σ0 : zS} {N : Nat}  : ∀ (n : Nat) (σ : zS) (v1 : Int32) (v2 : Int32) (v3 : Int32) (v4 : Int32) (v5 : Int32), FTT σ0 σ → zp (zb_Space_exploreFrom_20 N n σ v1 v2 v3 v4 v5) (fun r => FTT σ0 r.2) := by
  intro n
  induction n with
  | zero => intro _ _ _ _ _ _ _; exact zp_none
  | succ n ih =>
    intro σ v1 v2 v3 v4 v5 hs
    rw [zb_Space_exploreFrom_20]
    refine zp_ite (fun _ => ?_) fun _ => ?_
    ·
      refine zp_bind fun r4 _ => ?_
      refine zp_ite (fun _ => ?_) fun _ => ?_
      ·
        exact zp_some hs
      ·
        refine zp_chk fun _ => ?_
        exact zp_some (FTT.up (by decide) hs)
    ·
      refine zp_ite (fun _ => ?_) fun _ => ?_
      ·
        exact xt_b_Space_exploreFrom_43 (ih) hs
      ·
        refine zp_ite (fun _ => ?_) fun _ => ?_
        ·
          exact xt_b_Space_exploreFrom_48 (ih) hs
        ·
          exact xt_b_Space_exploreFrom_43 (ih) hs
theorem xt_f_Space_exploreFrom {σ0 : zS} {N : Nat} {σ : zS} {x1 : Int32} {x2 : Int32}  (hs : FTT σ0 σ) : zp (zf_Space_exploreFrom N σ x1 x2) (fun r => FTT σ0 r.2) := by
  unfold zf_Space_exploreFrom
  refine zp_bind (zp_mono (xt_f_Space_load  hs) fun r1 hr1 => ?_)
  refine zp_bind fun r2 _ => ?_
  exact xt_b_Space_exploreFrom_20  _ _ _ _ _ _ _ hr1
theorem xt_b_Space_explore_28 {σ0 : zS} {N : Nat}  : ∀ (n : Nat) (σ : zS) (v1 : Int32) (v2 : Int32) (v3 : Int32), FTT σ0 σ → zp (zb_Space_explore_28 N n σ v1 v2 v3) (fun r => FTT σ0 r.2) := by
  intro n
  induction n with
  | zero => intro _ _ _ _ _; exact zp_none
  | succ n ih =>
    intro σ v1 v2 v3 hs
    rw [zb_Space_explore_28]
    refine zp_ite (fun _ => ?_) fun _ => ?_
    ·
      refine zp_chk fun _ => ?_
      exact zp_some hs
    ·
      refine zp_ite (fun _ => ?_) fun _ => ?_
      ·
        refine zp_chk fun _ => ?_
        exact zp_some hs
      ·
        refine zp_ite (fun _ => ?_) fun _ => ?_
        ·
          refine zp_chk fun _ => ?_
          exact zp_some hs
        ·
          refine zp_bind (zp_mono (xt_f_Space_exploreFrom  hs) fun r10 hr10 => ?_)
          exact ih _ _ _ _ hr10
theorem xt_f_Space_explore {σ0 : zS} {N : Nat} {σ : zS} {x1 : Int32}  (hs : FTT σ0 σ) : zp (zf_Space_explore N σ x1) (fun r => FTT σ0 r.2) := by
  unfold zf_Space_explore
  refine zp_bind (zp_mono (xt_f_Arrays_fill_c3  (FTT.up (by decide) hs)) fun r1 hr1 => ?_)
  refine zp_bind (zp_mono (xt_f_Machine_setFirst  hr1) fun r2 hr2 => ?_)
  refine zp_bind (zp_mono (xt_f_Space_note  hr2) fun r3 hr3 => ?_)
  exact xt_b_Space_explore_28  _ _ _ _ _ hr3
theorem xt_f_Numbers_clear {σ0 : zS} {σ : zS}  (hs : FTT σ0 σ) : zp (zf_Numbers_clear σ) (fun r => FTT σ0 r) := by
  unfold zf_Numbers_clear
  exact zp_some (FTT.up (by decide) hs)
theorem xt_f_Numbers_clear_c1 {σ0 : zS} {σ : zS}  (hs : FTT σ0 σ) : zp (zf_Numbers_clear_c1 σ) (fun r => FTT σ0 r) := by
  unfold zf_Numbers_clear_c1
  exact zp_some (FTT.up (by decide) hs)
theorem xt_f_Numbers_clear_c2 {σ0 : zS} {σ : zS}  (hs : FTT σ0 σ) : zp (zf_Numbers_clear_c2 σ) (fun r => FTT σ0 r) := by
  unfold zf_Numbers_clear_c2
  exact zp_some (FTT.up (by decide) hs)
theorem xt_b_Arrays_fill_c5_5 {σ0 : zS} {N : Nat}  : ∀ (n : Nat) (σ : zS) (v1 : Int32) (v2 : Int32) (v3 : Int32), FTT σ0 σ → zp (zb_Arrays_fill_c5_5 N n σ v1 v2 v3) (fun r => FTT σ0 r) := by
  intro n
  induction n with
  | zero => intro _ _ _ _ _; exact zp_none
  | succ n ih =>
    intro σ v1 v2 v3 hs
    rw [zb_Arrays_fill_c5_5]
    refine zp_ite (fun _ => ?_) fun _ => ?_
    ·
      exact zp_some hs
    ·
      refine zp_chk fun _ => ?_
      exact ih _ _ _ _ (FTT.up (by decide) hs)
theorem xt_f_Arrays_fill_c5 {σ0 : zS} {N : Nat} {σ : zS} {x2 : Int32}  (hs : FTT σ0 σ) : zp (zf_Arrays_fill_c5 N σ x2) (fun r => FTT σ0 r) := by
  unfold zf_Arrays_fill_c5
  exact xt_b_Arrays_fill_c5_5  _ _ _ _ _ hs
theorem xt_f_Numbers_clear_c3 {σ0 : zS} {σ : zS}  (hs : FTT σ0 σ) : zp (zf_Numbers_clear_c3 σ) (fun r => FTT σ0 r) := by
  unfold zf_Numbers_clear_c3
  exact zp_some (FTT.up (by decide) hs)
theorem xt_f_Numbers_clear_c4 {σ0 : zS} {σ : zS}  (hs : FTT σ0 σ) : zp (zf_Numbers_clear_c4 σ) (fun r => FTT σ0 r) := by
  unfold zf_Numbers_clear_c4
  exact zp_some (FTT.up (by decide) hs)
theorem xt_f_Numbers_add {σ0 : zS} {σ : zS} {x1 : Int32}  (hs : FTT σ0 σ) : zp (zf_Numbers_add σ x1) (fun r => FTT σ0 r) := by
  unfold zf_Numbers_add
  refine zp_ite (fun _ => ?_) fun _ => ?_
  ·
    exact zp_some hs
  ·
    refine zp_ite (fun _ => ?_) fun _ => ?_
    ·
      exact zp_some hs
    ·
      refine zp_chk fun _ => ?_
      exact zp_some (FTT.up (by decide) (FTT.up (by decide) hs))
theorem xt_f_Numbers_add_c1 {σ0 : zS} {σ : zS} {x1 : Int32}  (hs : FTT σ0 σ) : zp (zf_Numbers_add_c1 σ x1) (fun r => FTT σ0 r) := by
  unfold zf_Numbers_add_c1
  refine zp_ite (fun _ => ?_) fun _ => ?_
  ·
    exact zp_some hs
  ·
    refine zp_ite (fun _ => ?_) fun _ => ?_
    ·
      exact zp_some hs
    ·
      refine zp_chk fun _ => ?_
      exact zp_some (FTT.up (by decide) (FTT.up (by decide) hs))
theorem xt_b_Findings_listRaces_56 {σ0 : zS} {k16 : zS → Int32 → Option (zS)} {N : Nat} {σ : zS} {v1 : Int32} (hk16 : ∀ (y0 : zS) (y1 : Int32), FTT σ0 y0 → zp (k16 y0 y1) (fun r => FTT σ0 r)) (hs : FTT σ0 σ) : zp (zb_Findings_listRaces_56 k16 N σ v1) (fun r => FTT σ0 r) := by
  unfold zb_Findings_listRaces_56
  exact hk16 _ _ hs
theorem xt_b_Findings_listRaces_16 {σ0 : zS} {N : Nat}  : ∀ (n : Nat) (σ : zS) (v1 : Int32), FTT σ0 σ → zp (zb_Findings_listRaces_16 N n σ v1) (fun r => FTT σ0 r) := by
  intro n
  induction n with
  | zero => intro _ _ _; exact zp_none
  | succ n ih =>
    intro σ v1 hs
    rw [zb_Findings_listRaces_16]
    refine zp_ite (fun _ => ?_) fun _ => ?_
    ·
      exact zp_some hs
    ·
      refine zp_chk fun _ => ?_
      refine zp_ite (fun _ => ?_) fun _ => ?_
      ·
        exact xt_b_Findings_listRaces_56 (ih) hs
      ·
        refine zp_bind (zp_mono (xt_f_Numbers_add  hs) fun r6 hr6 => ?_)
        refine zp_chk fun _ => ?_
        refine zp_bind (zp_mono (xt_f_Numbers_add_c1  hr6) fun r8 hr8 => ?_)
        exact xt_b_Findings_listRaces_56 (ih) hr8
theorem xt_f_Findings_listRaces {σ0 : zS} {N : Nat} {σ : zS}  (hs : FTT σ0 σ) : zp (zf_Findings_listRaces N σ) (fun r => FTT σ0 r) := by
  unfold zf_Findings_listRaces
  refine zp_bind (zp_mono (xt_f_Numbers_clear_c3  hs) fun r1 hr1 => ?_)
  refine zp_bind (zp_mono (xt_f_Numbers_clear_c4  hr1) fun r2 hr2 => ?_)
  exact xt_b_Findings_listRaces_16  _ _ _ hr2
theorem xt_f_Numbers_clear_c5 {σ0 : zS} {σ : zS}  (hs : FTT σ0 σ) : zp (zf_Numbers_clear_c5 σ) (fun r => FTT σ0 r) := by
  unfold zf_Numbers_clear_c5
  exact zp_some (FTT.up (by decide) hs)
theorem xt_f_Numbers_clear_c6 {σ0 : zS} {σ : zS}  (hs : FTT σ0 σ) : zp (zf_Numbers_clear_c6 σ) (fun r => FTT σ0 r) := by
  unfold zf_Numbers_clear_c6
  exact zp_some (FTT.up (by decide) hs)
theorem xt_b_Arrays_fill_c6_5 {σ0 : zS} {N : Nat}  : ∀ (n : Nat) (σ : zS) (v1 : Int32) (v2 : Int32) (v3 : Int32), FTT σ0 σ → zp (zb_Arrays_fill_c6_5 N n σ v1 v2 v3) (fun r => FTT σ0 r) := by
  intro n
  induction n with
  | zero => intro _ _ _ _ _; exact zp_none
  | succ n ih =>
    intro σ v1 v2 v3 hs
    rw [zb_Arrays_fill_c6_5]
    refine zp_ite (fun _ => ?_) fun _ => ?_
    ·
      exact zp_some hs
    ·
      refine zp_chk fun _ => ?_
      exact ih _ _ _ _ (FTT.up (by decide) hs)
theorem xt_f_Arrays_fill_c6 {σ0 : zS} {N : Nat} {σ : zS} {x2 : Int32}  (hs : FTT σ0 σ) : zp (zf_Arrays_fill_c6 N σ x2) (fun r => FTT σ0 r) := by
  unfold zf_Arrays_fill_c6
  exact xt_b_Arrays_fill_c6_5  _ _ _ _ _ hs
theorem xt_f_Numbers_add_c2 {σ0 : zS} {σ : zS} {x1 : Int32}  (hs : FTT σ0 σ) : zp (zf_Numbers_add_c2 σ x1) (fun r => FTT σ0 r) := by
  unfold zf_Numbers_add_c2
  refine zp_ite (fun _ => ?_) fun _ => ?_
  ·
    exact zp_some hs
  ·
    refine zp_ite (fun _ => ?_) fun _ => ?_
    ·
      exact zp_some hs
    ·
      refine zp_chk fun _ => ?_
      exact zp_some (FTT.up (by decide) (FTT.up (by decide) hs))
theorem xt_f_Numbers_add_c3 {σ0 : zS} {σ : zS} {x1 : Int32}  (hs : FTT σ0 σ) : zp (zf_Numbers_add_c3 σ x1) (fun r => FTT σ0 r) := by
  unfold zf_Numbers_add_c3
  refine zp_ite (fun _ => ?_) fun _ => ?_
  ·
    exact zp_some hs
  ·
    refine zp_ite (fun _ => ?_) fun _ => ?_
    ·
      exact zp_some hs
    ·
      refine zp_chk fun _ => ?_
      exact zp_some (FTT.up (by decide) (FTT.up (by decide) hs))
theorem xt_f_Outcomes_note {σ0 : zS} {N : Nat} {σ : zS} {x1 : Int32} {x2 : Int32}  (hs : FTT σ0 σ) : zp (zf_Outcomes_note N σ x1 x2) (fun r => FTT σ0 r) := by
  unfold zf_Outcomes_note
  refine zp_bind fun r1 _ => ?_
  refine zp_chk fun _ => ?_
  refine zp_ite (fun _ => ?_) fun _ => ?_
  ·
    exact zp_some hs
  ·
    refine zp_bind (zp_mono (xt_f_Numbers_add_c2  hs) fun r4 hr4 => ?_)
    refine zp_bind (zp_mono (xt_f_Numbers_add_c3  hr4) fun r5 hr5 => ?_)
    refine zp_chk fun _ => ?_
    exact zp_some (FTT.up (by decide) hr5)
theorem xt_b_Outcomes_gather_57 {σ0 : zS} {k24 : zS → Int32 → Option (zS)} {N : Nat} {σ : zS} {v2 : Int32} (hk24 : ∀ (y0 : zS) (y1 : Int32), FTT σ0 y0 → zp (k24 y0 y1) (fun r => FTT σ0 r)) (hs : FTT σ0 σ) : zp (zb_Outcomes_gather_57 k24 N σ v2) (fun r => FTT σ0 r) := by
  unfold zb_Outcomes_gather_57
  exact hk24 _ _ hs
theorem xt_b_Outcomes_gather_24 {σ0 : zS} {N : Nat}  : ∀ (n : Nat) (σ : zS) (v2 : Int32), FTT σ0 σ → zp (zb_Outcomes_gather_24 N n σ v2) (fun r => FTT σ0 r) := by
  intro n
  induction n with
  | zero => intro _ _ _; exact zp_none
  | succ n ih =>
    intro σ v2 hs
    rw [zb_Outcomes_gather_24]
    refine zp_ite (fun _ => ?_) fun _ => ?_
    ·
      exact zp_some hs
    ·
      refine zp_bind fun r5 _ => ?_
      refine zp_ite (fun _ => ?_) fun _ => ?_
      ·
        exact xt_b_Outcomes_gather_57 (ih) hs
      ·
        refine zp_bind (zp_mono (xt_f_Space_load  hs) fun r7 hr7 => ?_)
        refine zp_bind fun r8 _ => ?_
        refine zp_bind (zp_mono (xt_f_Outcomes_note  hr7) fun r9 hr9 => ?_)
        exact xt_b_Outcomes_gather_57 (ih) hr9
theorem xt_f_Outcomes_gather {σ0 : zS} {N : Nat} {σ : zS}  (hs : FTT σ0 σ) : zp (zf_Outcomes_gather N σ) (fun r => FTT σ0 r) := by
  unfold zf_Outcomes_gather
  refine zp_bind (zp_mono (xt_f_Numbers_clear_c5  hs) fun r1 hr1 => ?_)
  refine zp_bind (zp_mono (xt_f_Numbers_clear_c6  hr1) fun r2 hr2 => ?_)
  refine zp_bind (zp_mono (xt_f_Arrays_fill_c6  hr2) fun r3 hr3 => ?_)
  exact xt_b_Outcomes_gather_24  _ _ _ hr3
theorem xt_f_Findings_noteRace {σ0 : zS} {σ : zS} {x1 : Int32} {x2 : Int32} {x3 : Int32}  (hs : FTT σ0 σ) : zp (zf_Findings_noteRace σ x1 x2 x3) (fun r => FTT σ0 r) := by
  unfold zf_Findings_noteRace
  refine zp_bind fun r1 _ => ?_
  refine zp_ite (fun _ => ?_) fun _ => ?_
  ·
    exact zp_some hs
  ·
    refine zp_ite (fun _ => ?_) fun _ => ?_
    ·
      exact zp_some hs
    ·
      refine zp_ite (fun _ => ?_) fun _ => ?_
      ·
        exact zp_some hs
      ·
        refine zp_chk fun _ => ?_
        refine zp_ite (fun _ => ?_) fun _ => ?_
        ·
          exact zp_some hs
        ·
          refine zp_chk fun _ => ?_
          exact zp_some (FTT.up (by decide) hs)
theorem xt_b_Findings_noteRaces_83 {σ0 : zS} {k17 : zS → Int32 → Int32 → Int32 → Option (zS)} {N : Nat} {σ : zS} {v1 : Int32} {v2 : Int32} {v3 : Int32} (hk17 : ∀ (y0 : zS) (y1 : Int32) (y2 : Int32) (y3 : Int32), FTT σ0 y0 → zp (k17 y0 y1 y2 y3) (fun r => FTT σ0 r)) (hs : FTT σ0 σ) : zp (zb_Findings_noteRaces_83 k17 N σ v1 v2 v3) (fun r => FTT σ0 r) := by
  unfold zb_Findings_noteRaces_83
  exact hk17 _ _ _ _ hs
theorem xt_b_Findings_noteRaces_17 {σ0 : zS} {k2 : zS → Int32 → Int32 → Option (zS)} {N : Nat} (hk2 : ∀ (y0 : zS) (y1 : Int32) (y2 : Int32), FTT σ0 y0 → zp (k2 y0 y1 y2) (fun r => FTT σ0 r)) : ∀ (n : Nat) (σ : zS) (v1 : Int32) (v2 : Int32) (v3 : Int32), FTT σ0 σ → zp (zb_Findings_noteRaces_17 k2 N n σ v1 v2 v3) (fun r => FTT σ0 r) := by
  intro n
  induction n with
  | zero => intro _ _ _ _ _; exact zp_none
  | succ n ih =>
    intro σ v1 v2 v3 hs
    rw [zb_Findings_noteRaces_17]
    refine zp_ite (fun _ => ?_) fun _ => ?_
    ·
      exact hk2 _ _ _ hs
    ·
      refine zp_bind fun r3 _ => ?_
      refine zp_ite (fun _ => ?_) fun _ => ?_
      ·
        exact xt_b_Findings_noteRaces_83 (ih) hs
      ·
        refine zp_bind fun r5 _ => ?_
        refine zp_ite (fun _ => ?_) fun _ => ?_
        ·
          exact xt_b_Findings_noteRaces_83 (ih) hs
        ·
          refine zp_bind fun r7 _ => ?_
          refine zp_bind fun r8 _ => ?_
          refine zp_bind (zp_mono (xt_f_Findings_noteRace  hs) fun r9 hr9 => ?_)
          exact xt_b_Findings_noteRaces_83 (ih) hr9
theorem xt_b_Findings_noteRaces_2 {σ0 : zS} {N : Nat}  : ∀ (n : Nat) (σ : zS) (v1 : Int32) (v2 : Int32), FTT σ0 σ → zp (zb_Findings_noteRaces_2 N n σ v1 v2) (fun r => FTT σ0 r) := by
  intro n
  induction n with
  | zero => intro _ _ _ _; exact zp_none
  | succ n ih =>
    intro σ v1 v2 hs
    rw [zb_Findings_noteRaces_2]
    refine zp_ite (fun _ => ?_) fun _ => ?_
    ·
      exact zp_some hs
    ·
      exact xt_b_Findings_noteRaces_17 (ih) _ _ _ _ _ hs
theorem xt_f_Findings_noteRaces {σ0 : zS} {N : Nat} {σ : zS} {x1 : Int32}  (hs : FTT σ0 σ) : zp (zf_Findings_noteRaces N σ x1) (fun r => FTT σ0 r) := by
  unfold zf_Findings_noteRaces
  exact xt_b_Findings_noteRaces_2  _ _ _ _ hs
theorem xt_f_Numbers_add_c4 {σ0 : zS} {σ : zS} {x1 : Int32}  (hs : FTT σ0 σ) : zp (zf_Numbers_add_c4 σ x1) (fun r => FTT σ0 r) := by
  unfold zf_Numbers_add_c4
  refine zp_ite (fun _ => ?_) fun _ => ?_
  ·
    exact zp_some hs
  ·
    refine zp_ite (fun _ => ?_) fun _ => ?_
    ·
      exact zp_some hs
    ·
      refine zp_chk fun _ => ?_
      exact zp_some (FTT.up (by decide) (FTT.up (by decide) hs))
theorem xt_f_Numbers_add_c5 {σ0 : zS} {σ : zS} {x1 : Int32}  (hs : FTT σ0 σ) : zp (zf_Numbers_add_c5 σ x1) (fun r => FTT σ0 r) := by
  unfold zf_Numbers_add_c5
  refine zp_ite (fun _ => ?_) fun _ => ?_
  ·
    exact zp_some hs
  ·
    refine zp_ite (fun _ => ?_) fun _ => ?_
    ·
      exact zp_some hs
    ·
      refine zp_chk fun _ => ?_
      exact zp_some (FTT.up (by decide) (FTT.up (by decide) hs))
theorem xt_f_Numbers_add_c6 {σ0 : zS} {σ : zS} {x1 : Int32}  (hs : FTT σ0 σ) : zp (zf_Numbers_add_c6 σ x1) (fun r => FTT σ0 r) := by
  unfold zf_Numbers_add_c6
  refine zp_ite (fun _ => ?_) fun _ => ?_
  ·
    exact zp_some hs
  ·
    refine zp_ite (fun _ => ?_) fun _ => ?_
    ·
      exact zp_some hs
    ·
      refine zp_chk fun _ => ?_
      exact zp_some (FTT.up (by decide) (FTT.up (by decide) hs))
theorem xt_b_Findings_gather_97 {σ0 : zS} {k31 : zS → Int32 → Option (zS)} {N : Nat} {σ : zS} {v2 : Int32} (hk31 : ∀ (y0 : zS) (y1 : Int32), FTT σ0 y0 → zp (k31 y0 y1) (fun r => FTT σ0 r)) (hs : FTT σ0 σ) : zp (zb_Findings_gather_97 k31 N σ v2) (fun r => FTT σ0 r) := by
  unfold zb_Findings_gather_97
  refine zp_bind (zp_mono (xt_f_Findings_noteRaces  hs) fun r13 hr13 => ?_)
  exact hk31 _ _ hr13
theorem xt_b_Findings_gather_91_1 {σ0 : zS} {k31 : zS → Int32 → Option (zS)} {N : Nat} {σ : zS} {v2 : Int32} (hk31 : ∀ (y0 : zS) (y1 : Int32), FTT σ0 y0 → zp (k31 y0 y1) (fun r => FTT σ0 r)) (hs : FTT σ0 σ) : zp (zb_Findings_gather_91_1 k31 N σ v2) (fun r => FTT σ0 r) := by
  unfold zb_Findings_gather_91_1
  refine zp_bind (zp_mono (xt_f_Numbers_add_c5  hs) fun r17 hr17 => ?_)
  exact xt_b_Findings_gather_97 (hk31) hr17
theorem xt_b_Findings_gather_91 {σ0 : zS} {k31 : zS → Int32 → Option (zS)} {N : Nat} {σ : zS} {v2 : Int32} (hk31 : ∀ (y0 : zS) (y1 : Int32), FTT σ0 y0 → zp (k31 y0 y1) (fun r => FTT σ0 r)) (hs : FTT σ0 σ) : zp (zb_Findings_gather_91 k31 N σ v2) (fun r => FTT σ0 r) := by
  unfold zb_Findings_gather_91
  refine zp_bind (zp_mono (xt_f_Numbers_add_c4  hs) fun r16 hr16 => ?_)
  exact xt_b_Findings_gather_97 (hk31) hr16
theorem xt_b_Findings_gather_62 {σ0 : zS} {k31 : zS → Int32 → Option (zS)} {N : Nat} {σ : zS} {v2 : Int32} (hk31 : ∀ (y0 : zS) (y1 : Int32), FTT σ0 y0 → zp (k31 y0 y1) (fun r => FTT σ0 r)) (hs : FTT σ0 σ) : zp (zb_Findings_gather_62 k31 N σ v2) (fun r => FTT σ0 r) := by
  unfold zb_Findings_gather_62
  refine zp_bind fun r11 _ => ?_
  refine zp_ite (fun _ => ?_) fun _ => ?_
  ·
    exact xt_b_Findings_gather_97 (hk31) hs
  ·
    refine zp_bind fun r14 _ => ?_
    refine zp_ite (fun _ => ?_) fun _ => ?_
    ·
      exact xt_b_Findings_gather_91 (hk31) hs
    ·
      exact xt_b_Findings_gather_91_1 (hk31) hs
theorem xt_b_Findings_gather_31 {σ0 : zS} {N : Nat}  : ∀ (n : Nat) (σ : zS) (v2 : Int32), FTT σ0 σ → zp (zb_Findings_gather_31 N n σ v2) (fun r => FTT σ0 r) := by
  intro n
  induction n with
  | zero => intro _ _ _; exact zp_none
  | succ n ih =>
    intro σ v2 hs
    rw [zb_Findings_gather_31]
    refine zp_ite (fun _ => ?_) fun _ => ?_
    ·
      refine zp_bind (zp_mono (xt_f_Findings_listRaces  hs) fun r6 hr6 => ?_)
      refine zp_bind (zp_mono (xt_f_Outcomes_gather  hr6) fun r7 hr7 => ?_)
      exact zp_some hr7
    ·
      refine zp_bind (zp_mono (xt_f_Space_load  hs) fun r8 hr8 => ?_)
      refine zp_bind fun r9 _ => ?_
      refine zp_ite (fun _ => ?_) fun _ => ?_
      ·
        exact xt_b_Findings_gather_62 (ih) hr8
      ·
        refine zp_bind (zp_mono (xt_f_Numbers_add_c6  hr8) fun r18 hr18 => ?_)
        exact xt_b_Findings_gather_62 (ih) hr18
theorem xt_f_Findings_gather {σ0 : zS} {N : Nat} {σ : zS}  (hs : FTT σ0 σ) : zp (zf_Findings_gather N σ) (fun r => FTT σ0 r) := by
  unfold zf_Findings_gather
  refine zp_bind (zp_mono (xt_f_Numbers_clear  hs) fun r1 hr1 => ?_)
  refine zp_bind (zp_mono (xt_f_Numbers_clear_c1  hr1) fun r2 hr2 => ?_)
  refine zp_bind (zp_mono (xt_f_Numbers_clear_c2  hr2) fun r3 hr3 => ?_)
  refine zp_bind (zp_mono (xt_f_Arrays_fill_c5  hr3) fun r4 hr4 => ?_)
  exact xt_b_Findings_gather_31  _ _ _ hr4
theorem xt_f_X_thread {σ0 : zS} {N : Nat} {σ : zS} {x1 : Int32} {x2 : Int32} {x3 : Int32}  (hs : FTT σ0 σ) : zp (zf_X_thread N σ x1 x2 x3) (fun r => FTT σ0 r.2) := by
  unfold zf_X_thread
  refine zp_ite (fun _ => ?_) fun _ => ?_
  ·
    refine zp_bind fun r2 _ => ?_
    refine zp_ite (fun _ => ?_) fun _ => ?_
    ·
      exact zp_some hs
    ·
      refine zp_bind fun r4 _ => ?_
      refine zp_ite (fun _ => ?_) fun _ => ?_
      ·
        refine zp_bind (zp_mono (xt_f_Space_load  hs) fun r6 hr6 => ?_)
        refine zp_ite (fun _ => ?_) fun _ => ?_
        ·
          refine zp_bind fun r19 _ => ?_
          exact zp_some hr6
        ·
          refine zp_ite (fun _ => ?_) fun _ => ?_
          ·
            refine zp_bind fun r18 _ => ?_
            exact zp_some hr6
          ·
            refine zp_ite (fun _ => ?_) fun _ => ?_
            ·
              refine zp_bind fun r16 _ => ?_
              refine zp_ite (fun _ => ?_) fun _ => ?_
              ·
                exact zp_some hr6
              ·
                exact zp_some hr6
            ·
              refine zp_ite (fun _ => ?_) fun _ => ?_
              ·
                refine zp_bind fun r15 _ => ?_
                exact zp_some hr6
              ·
                refine zp_ite (fun _ => ?_) fun _ => ?_
                ·
                  refine zp_bind fun r14 _ => ?_
                  exact zp_some hr6
                ·
                  refine zp_ite (fun _ => ?_) fun _ => ?_
                  ·
                    refine zp_bind fun r13 _ => ?_
                    exact zp_some hr6
                  ·
                    exact zp_some hr6
      ·
        exact zp_some hs
  ·
    exact zp_some hs
theorem xt_f_X_field {σ0 : zS} {N : Nat} {σ : zS} {x1 : Int32} {x2 : Int32}  (hs : FTT σ0 σ) : zp (zf_X_field N σ x1 x2) (fun r => FTT σ0 r.2) := by
  unfold zf_X_field
  refine zp_ite (fun _ => ?_) fun _ => ?_
  ·
    refine zp_ite (fun _ => ?_) fun _ => ?_
    ·
      exact zp_some hs
    ·
      refine zp_ite (fun _ => ?_) fun _ => ?_
      ·
        exact zp_some hs
      ·
        refine zp_bind fun r4 _ => ?_
        refine zp_ite (fun _ => ?_) fun _ => ?_
        ·
          refine zp_bind (zp_mono (xt_f_Space_load  hs) fun r6 hr6 => ?_)
          refine zp_bind fun r7 _ => ?_
          exact zp_some hr6
        ·
          exact zp_some hs
  ·
    exact zp_some hs
theorem xt_f_X_owner {σ0 : zS} {N : Nat} {σ : zS} {x1 : Int32} {x2 : Int32}  (hs : FTT σ0 σ) : zp (zf_X_owner N σ x1 x2) (fun r => FTT σ0 r.2) := by
  unfold zf_X_owner
  refine zp_ite (fun _ => ?_) fun _ => ?_
  ·
    refine zp_ite (fun _ => ?_) fun _ => ?_
    ·
      exact zp_some hs
    ·
      refine zp_ite (fun _ => ?_) fun _ => ?_
      ·
        exact zp_some hs
      ·
        refine zp_bind fun r4 _ => ?_
        refine zp_ite (fun _ => ?_) fun _ => ?_
        ·
          refine zp_bind (zp_mono (xt_f_Space_load  hs) fun r6 hr6 => ?_)
          refine zp_bind fun r7 _ => ?_
          exact zp_some hr6
        ·
          exact zp_some hs
  ·
    exact zp_some hs
theorem xt_f_X_stuck {σ0 : zS} {N : Nat} {σ : zS} {x1 : Int32}  (hs : FTT σ0 σ) : zp (zf_X_stuck N σ x1) (fun r => FTT σ0 r.2) := by
  unfold zf_X_stuck
  refine zp_ite (fun _ => ?_) fun _ => ?_
  ·
    refine zp_bind fun r2 _ => ?_
    refine zp_ite (fun _ => ?_) fun _ => ?_
    ·
      exact zp_some hs
    ·
      refine zp_bind fun r4 _ => ?_
      refine zp_ite (fun _ => ?_) fun _ => ?_
      ·
        refine zp_bind (zp_mono (xt_f_Space_load  hs) fun r6 hr6 => ?_)
        refine zp_bind fun r7 _ => ?_
        refine zp_ite (fun _ => ?_) fun _ => ?_
        ·
          refine zp_bind fun r9 _ => ?_
          refine zp_ite (fun _ => ?_) fun _ => ?_
          ·
            refine zp_bind fun r11 _ => ?_
            refine zp_ite (fun _ => ?_) fun _ => ?_
            ·
              exact zp_some hr6
            ·
              exact zp_some hr6
          ·
            exact zp_some hr6
        ·
          exact zp_some hr6
      ·
        exact zp_some hs
  ·
    exact zp_some hs
theorem xt_b_Arrays_fill_c7_5 {σ0 : zS} {N : Nat}  : ∀ (n : Nat) (σ : zS) (v1 : Int32) (v2 : Int32) (v3 : Int32), FTT σ0 σ → zp (zb_Arrays_fill_c7_5 N n σ v1 v2 v3) (fun r => FTT σ0 r) := by
  intro n
  induction n with
  | zero => intro _ _ _ _ _; exact zp_none
  | succ n ih =>
    intro σ v1 v2 v3 hs
    rw [zb_Arrays_fill_c7_5]
    refine zp_ite (fun _ => ?_) fun _ => ?_
    ·
      exact zp_some hs
    ·
      refine zp_chk fun _ => ?_
      exact ih _ _ _ _ (FTT.up (by decide) hs)
theorem xt_f_Arrays_fill_c7 {σ0 : zS} {N : Nat} {σ : zS} {x2 : Int32}  (hs : FTT σ0 σ) : zp (zf_Arrays_fill_c7 N σ x2) (fun r => FTT σ0 r) := by
  unfold zf_Arrays_fill_c7
  exact xt_b_Arrays_fill_c7_5  _ _ _ _ _ hs
theorem xt_f_Space_note_c1 {σ0 : zS} {N : Nat} {σ : zS} {x1 : Int32}  (hs : FTT σ0 σ) : zp (zf_Space_note_c1 N σ x1) (fun r => FTT σ0 r.2) := by
  unfold zf_Space_note_c1
  refine zp_bind fun r1 _ => ?_
  refine zp_chk fun _ => ?_
  refine zp_ite (fun _ => ?_) fun _ => ?_
  ·
    refine zp_ite (fun _ => ?_) fun _ => ?_
    ·
      exact zp_some hs
    ·
      refine zp_ite (fun _ => ?_) fun _ => ?_
      ·
        refine zp_chk fun _ => ?_
        refine zp_chk fun _ => ?_
        refine zp_chk fun _ => ?_
        exact zp_some (FTT.up (by decide) (FTT.up (by decide) (FTT.up (by decide) (FTT.cp (by decide) hs))))
      ·
        exact zp_some hs
  ·
    exact zp_some hs
theorem xt_b_Machine_load_c1_130 {σ0 : zS} {k34 : zS → Int32 → Option (zS)} {N : Nat} {σ : zS} {v3 : Int32} (hk34 : ∀ (y0 : zS) (y1 : Int32), FTT σ0 y0 → zp (k34 y0 y1) (fun r => FTT σ0 r)) (hs : FTT σ0 σ) : zp (zb_Machine_load_c1_130 k34 N σ v3) (fun r => FTT σ0 r) := by
  unfold zb_Machine_load_c1_130
  exact hk34 _ _ hs
theorem xt_b_Machine_load_c1_124 {σ0 : zS} {k95 : zS → Int32 → Int32 → Int32 → Option (zS)} {N : Nat} {σ : zS} {v3 : Int32} {v5 : Int32} {v6 : Int32} (hk95 : ∀ (y0 : zS) (y1 : Int32) (y2 : Int32) (y3 : Int32), FTT σ0 y0 → zp (k95 y0 y1 y2 y3) (fun r => FTT σ0 r)) (hs : FTT σ0 σ) : zp (zb_Machine_load_c1_124 k95 N σ v3 v5 v6) (fun r => FTT σ0 r) := by
  unfold zb_Machine_load_c1_124
  exact hk95 _ _ _ _ hs
theorem xt_b_Machine_load_c1_95 {σ0 : zS} {k34 : zS → Int32 → Option (zS)} {N : Nat} (hk34 : ∀ (y0 : zS) (y1 : Int32), FTT σ0 y0 → zp (k34 y0 y1) (fun r => FTT σ0 r)) : ∀ (n : Nat) (σ : zS) (v3 : Int32) (v5 : Int32) (v6 : Int32), FTT σ0 σ → zp (zb_Machine_load_c1_95 k34 N n σ v3 v5 v6) (fun r => FTT σ0 r) := by
  intro n
  induction n with
  | zero => intro _ _ _ _ _; exact zp_none
  | succ n ih =>
    intro σ v3 v5 v6 hs
    rw [zb_Machine_load_c1_95]
    refine zp_ite (fun _ => ?_) fun _ => ?_
    ·
      exact xt_b_Machine_load_c1_130 (hk34) hs
    ·
      refine zp_ite (fun _ => ?_) fun _ => ?_
      ·
        exact xt_b_Machine_load_c1_130 (hk34) hs
      ·
        refine zp_ite (fun _ => ?_) fun _ => ?_
        ·
          exact xt_b_Machine_load_c1_124 (ih) hs
        ·
          refine zp_chk fun _ => ?_
          exact xt_b_Machine_load_c1_124 (ih) (FTT.up (by decide) hs)
theorem xt_b_Machine_load_c1_34 {σ0 : zS} {N : Nat}  : ∀ (n : Nat) (σ : zS) (v3 : Int32), FTT σ0 σ → zp (zb_Machine_load_c1_34 N n σ v3) (fun r => FTT σ0 r) := by
  intro n
  induction n with
  | zero => intro _ _ _; exact zp_none
  | succ n ih =>
    intro σ v3 hs
    rw [zb_Machine_load_c1_34]
    refine zp_ite (fun _ => ?_) fun _ => ?_
    ·
      exact zp_some hs
    ·
      refine zp_chk fun _ => ?_
      refine zp_chk fun _ => ?_
      refine zp_bind fun r8 _ => ?_
      refine zp_chk fun _ => ?_
      refine zp_bind fun r10 _ => ?_
      exact xt_b_Machine_load_c1_95 (ih) _ _ _ _ _ (FTT.up (by decide) (FTT.up (by decide) hs))
theorem xt_f_Machine_load_c1 {σ0 : zS} {N : Nat} {σ : zS} {x2 : Int32}  (hs : FTT σ0 σ) : zp (zf_Machine_load_c1 N σ x2) (fun r => FTT σ0 r) := by
  unfold zf_Machine_load_c1
  refine zp_ite (fun _ => ?_) fun _ => ?_
  ·
    exact zp_some hs
  ·
    refine zp_ite (fun _ => ?_) fun _ => ?_
    ·
      refine zp_chk fun _ => ?_
      refine zp_bind (zp_mono (xt_f_Arrays_fill_c4  (FTT.cp (by decide) hs)) fun r4 hr4 => ?_)
      exact xt_b_Machine_load_c1_34  _ _ _ hr4
    ·
      exact zp_some hs
theorem xt_f_Space_load_c1 {σ0 : zS} {N : Nat} {σ : zS} {x1 : Int32}  (hs : FTT σ0 σ) : zp (zf_Space_load_c1 N σ x1) (fun r => FTT σ0 r) := by
  unfold zf_Space_load_c1
  refine zp_bind fun r1 _ => ?_
  refine zp_ite (fun _ => ?_) fun _ => ?_
  ·
    exact zp_some hs
  ·
    refine zp_bind (zp_mono (xt_f_Machine_load_c1  hs) fun r3 hr3 => ?_)
    exact zp_some hr3
theorem xt_b_Space_exploreFrom_c1_95 {σ0 : zS} {k20 : zS → Int32 → Int32 → Int32 → Int32 → Int32 → Option (Int32 × zS)} {N : Nat} {σ : zS} {v1 : Int32} {v2 : Int32} {v3 : Int32} {v4 : Int32} {v5 : Int32} (hk20 : ∀ (y0 : zS) (y1 : Int32) (y2 : Int32) (y3 : Int32) (y4 : Int32) (y5 : Int32), FTT σ0 y0 → zp (k20 y0 y1 y2 y3 y4 y5) (fun r => FTT σ0 r.2)) (hs : FTT σ0 σ) : zp (zb_Space_exploreFrom_c1_95 k20 N σ v1 v2 v3 v4 v5) (fun r => FTT σ0 r.2) := by
  unfold zb_Space_exploreFrom_c1_95
  exact hk20 _ _ _ _ _ _ hs
theorem xt_b_Space_exploreFrom_c1_48 {σ0 : zS} {k20 : zS → Int32 → Int32 → Int32 → Int32 → Int32 → Option (Int32 × zS)} {N : Nat} {σ : zS} {v1 : Int32} {v2 : Int32} {v3 : Int32} {v4 : Int32} {v5 : Int32} {s0 : Int32} (hk20 : ∀ (y0 : zS) (y1 : Int32) (y2 : Int32) (y3 : Int32) (y4 : Int32) (y5 : Int32), FTT σ0 y0 → zp (k20 y0 y1 y2 y3 y4 y5) (fun r => FTT σ0 r.2)) (hs : FTT σ0 σ) : zp (zb_Space_exploreFrom_c1_48 k20 N σ v1 v2 v3 v4 v5 s0) (fun r => FTT σ0 r.2) := by
  unfold zb_Space_exploreFrom_c1_48
  refine zp_ite (fun _ => ?_) fun _ => ?_
  ·
    exact xt_b_Space_exploreFrom_c1_95 (hk20) hs
  ·
    refine zp_bind fun r9 _ => ?_
    refine zp_ite (fun _ => ?_) fun _ => ?_
    ·
      exact xt_b_Space_exploreFrom_c1_95 (hk20) hs
    ·
      refine zp_bind (zp_mono (xt_f_Machine_move  hs) fun r11 hr11 => ?_)
      refine zp_bind (zp_mono (xt_f_Space_note_c1  hr11) fun r12 hr12 => ?_)
      refine zp_ite (fun _ => ?_) fun _ => ?_
      ·
        exact xt_b_Space_exploreFrom_c1_95 (hk20) hr12
      ·
        exact zp_some hr12
theorem xt_b_Space_exploreFrom_c1_43 {σ0 : zS} {k20 : zS → Int32 → Int32 → Int32 → Int32 → Int32 → Option (Int32 × zS)} {N : Nat} {σ : zS} {v1 : Int32} {v2 : Int32} {v3 : Int32} {v4 : Int32} {v5 : Int32} (hk20 : ∀ (y0 : zS) (y1 : Int32) (y2 : Int32) (y3 : Int32) (y4 : Int32) (y5 : Int32), FTT σ0 y0 → zp (k20 y0 y1 y2 y3 y4 y5) (fun r => FTT σ0 r.2)) (hs : FTT σ0 σ) : zp (zb_Space_exploreFrom_c1_43 k20 N σ v1 v2 v3 v4 v5) (fun r => FTT σ0 r.2) := by
  unfold zb_Space_exploreFrom_c1_43
  exact xt_b_Space_exploreFrom_c1_48 (hk20) hs
theorem xt_b_Space_exploreFrom_c1_20 {σ0 : zS} {N : Nat}  : ∀ (n : Nat) (σ : zS) (v1 : Int32) (v2 : Int32) (v3 : Int32) (v4 : Int32) (v5 : Int32), FTT σ0 σ → zp (zb_Space_exploreFrom_c1_20 N n σ v1 v2 v3 v4 v5) (fun r => FTT σ0 r.2) := by
  intro n
  induction n with
  | zero => intro _ _ _ _ _ _ _; exact zp_none
  | succ n ih =>
    intro σ v1 v2 v3 v4 v5 hs
    rw [zb_Space_exploreFrom_c1_20]
    refine zp_ite (fun _ => ?_) fun _ => ?_
    ·
      refine zp_bind fun r4 _ => ?_
      refine zp_ite (fun _ => ?_) fun _ => ?_
      ·
        exact zp_some hs
      ·
        refine zp_chk fun _ => ?_
        exact zp_some (FTT.up (by decide) hs)
    ·
      refine zp_ite (fun _ => ?_) fun _ => ?_
      ·
        exact xt_b_Space_exploreFrom_c1_43 (ih) hs
      ·
        refine zp_ite (fun _ => ?_) fun _ => ?_
        ·
          exact xt_b_Space_exploreFrom_c1_48 (ih) hs
        ·
          exact xt_b_Space_exploreFrom_c1_43 (ih) hs
theorem xt_f_Space_exploreFrom_c1 {σ0 : zS} {N : Nat} {σ : zS} {x1 : Int32} {x2 : Int32}  (hs : FTT σ0 σ) : zp (zf_Space_exploreFrom_c1 N σ x1 x2) (fun r => FTT σ0 r.2) := by
  unfold zf_Space_exploreFrom_c1
  refine zp_bind (zp_mono (xt_f_Space_load_c1  hs) fun r1 hr1 => ?_)
  refine zp_bind fun r2 _ => ?_
  exact xt_b_Space_exploreFrom_c1_20  _ _ _ _ _ _ _ hr1
theorem xt_b_Space_explore_c1_28 {σ0 : zS} {N : Nat}  : ∀ (n : Nat) (σ : zS) (v1 : Int32) (v2 : Int32) (v3 : Int32), FTT σ0 σ → zp (zb_Space_explore_c1_28 N n σ v1 v2 v3) (fun r => FTT σ0 r.2) := by
  intro n
  induction n with
  | zero => intro _ _ _ _ _; exact zp_none
  | succ n ih =>
    intro σ v1 v2 v3 hs
    rw [zb_Space_explore_c1_28]
    refine zp_ite (fun _ => ?_) fun _ => ?_
    ·
      refine zp_chk fun _ => ?_
      exact zp_some hs
    ·
      refine zp_ite (fun _ => ?_) fun _ => ?_
      ·
        refine zp_chk fun _ => ?_
        exact zp_some hs
      ·
        refine zp_ite (fun _ => ?_) fun _ => ?_
        ·
          refine zp_chk fun _ => ?_
          exact zp_some hs
        ·
          refine zp_bind (zp_mono (xt_f_Space_exploreFrom_c1  hs) fun r10 hr10 => ?_)
          exact ih _ _ _ _ hr10
theorem xt_f_Space_explore_c1 {σ0 : zS} {N : Nat} {σ : zS} {x1 : Int32}  (hs : FTT σ0 σ) : zp (zf_Space_explore_c1 N σ x1) (fun r => FTT σ0 r.2) := by
  unfold zf_Space_explore_c1
  refine zp_bind (zp_mono (xt_f_Arrays_fill_c7  (FTT.up (by decide) hs)) fun r1 hr1 => ?_)
  refine zp_bind (zp_mono (xt_f_Machine_setFirst  hr1) fun r2 hr2 => ?_)
  refine zp_bind (zp_mono (xt_f_Space_note_c1  hr2) fun r3 hr3 => ?_)
  exact xt_b_Space_explore_c1_28  _ _ _ _ _ hr3
theorem xt_f_Numbers_clear_c7 {σ0 : zS} {σ : zS}  (hs : FTT σ0 σ) : zp (zf_Numbers_clear_c7 σ) (fun r => FTT σ0 r) := by
  unfold zf_Numbers_clear_c7
  exact zp_some (FTT.up (by decide) hs)
theorem xt_f_Numbers_clear_c8 {σ0 : zS} {σ : zS}  (hs : FTT σ0 σ) : zp (zf_Numbers_clear_c8 σ) (fun r => FTT σ0 r) := by
  unfold zf_Numbers_clear_c8
  exact zp_some (FTT.up (by decide) hs)
theorem xt_b_Arrays_fill_c8_5 {σ0 : zS} {N : Nat}  : ∀ (n : Nat) (σ : zS) (v1 : Int32) (v2 : Int32) (v3 : Int32), FTT σ0 σ → zp (zb_Arrays_fill_c8_5 N n σ v1 v2 v3) (fun r => FTT σ0 r) := by
  intro n
  induction n with
  | zero => intro _ _ _ _ _; exact zp_none
  | succ n ih =>
    intro σ v1 v2 v3 hs
    rw [zb_Arrays_fill_c8_5]
    refine zp_ite (fun _ => ?_) fun _ => ?_
    ·
      exact zp_some hs
    ·
      refine zp_chk fun _ => ?_
      exact ih _ _ _ _ (FTT.up (by decide) hs)
theorem xt_f_Arrays_fill_c8 {σ0 : zS} {N : Nat} {σ : zS} {x2 : Int32}  (hs : FTT σ0 σ) : zp (zf_Arrays_fill_c8 N σ x2) (fun r => FTT σ0 r) := by
  unfold zf_Arrays_fill_c8
  exact xt_b_Arrays_fill_c8_5  _ _ _ _ _ hs
theorem xt_f_Numbers_add_c7 {σ0 : zS} {σ : zS} {x1 : Int32}  (hs : FTT σ0 σ) : zp (zf_Numbers_add_c7 σ x1) (fun r => FTT σ0 r) := by
  unfold zf_Numbers_add_c7
  refine zp_ite (fun _ => ?_) fun _ => ?_
  ·
    exact zp_some hs
  ·
    refine zp_ite (fun _ => ?_) fun _ => ?_
    ·
      exact zp_some hs
    ·
      refine zp_chk fun _ => ?_
      exact zp_some (FTT.up (by decide) (FTT.up (by decide) hs))
theorem xt_f_Numbers_add_c8 {σ0 : zS} {σ : zS} {x1 : Int32}  (hs : FTT σ0 σ) : zp (zf_Numbers_add_c8 σ x1) (fun r => FTT σ0 r) := by
  unfold zf_Numbers_add_c8
  refine zp_ite (fun _ => ?_) fun _ => ?_
  ·
    exact zp_some hs
  ·
    refine zp_ite (fun _ => ?_) fun _ => ?_
    ·
      exact zp_some hs
    ·
      refine zp_chk fun _ => ?_
      exact zp_some (FTT.up (by decide) (FTT.up (by decide) hs))
theorem xt_f_Outcomes_note_c1 {σ0 : zS} {N : Nat} {σ : zS} {x1 : Int32} {x2 : Int32}  (hs : FTT σ0 σ) : zp (zf_Outcomes_note_c1 N σ x1 x2) (fun r => FTT σ0 r) := by
  unfold zf_Outcomes_note_c1
  refine zp_bind fun r1 _ => ?_
  refine zp_chk fun _ => ?_
  refine zp_ite (fun _ => ?_) fun _ => ?_
  ·
    exact zp_some hs
  ·
    refine zp_bind (zp_mono (xt_f_Numbers_add_c7  hs) fun r4 hr4 => ?_)
    refine zp_bind (zp_mono (xt_f_Numbers_add_c8  hr4) fun r5 hr5 => ?_)
    refine zp_chk fun _ => ?_
    exact zp_some (FTT.up (by decide) hr5)
theorem xt_b_Outcomes_gather_c1_57 {σ0 : zS} {k24 : zS → Int32 → Option (zS)} {N : Nat} {σ : zS} {v2 : Int32} (hk24 : ∀ (y0 : zS) (y1 : Int32), FTT σ0 y0 → zp (k24 y0 y1) (fun r => FTT σ0 r)) (hs : FTT σ0 σ) : zp (zb_Outcomes_gather_c1_57 k24 N σ v2) (fun r => FTT σ0 r) := by
  unfold zb_Outcomes_gather_c1_57
  exact hk24 _ _ hs
theorem xt_b_Outcomes_gather_c1_24 {σ0 : zS} {N : Nat}  : ∀ (n : Nat) (σ : zS) (v2 : Int32), FTT σ0 σ → zp (zb_Outcomes_gather_c1_24 N n σ v2) (fun r => FTT σ0 r) := by
  intro n
  induction n with
  | zero => intro _ _ _; exact zp_none
  | succ n ih =>
    intro σ v2 hs
    rw [zb_Outcomes_gather_c1_24]
    refine zp_ite (fun _ => ?_) fun _ => ?_
    ·
      exact zp_some hs
    ·
      refine zp_bind fun r5 _ => ?_
      refine zp_ite (fun _ => ?_) fun _ => ?_
      ·
        exact xt_b_Outcomes_gather_c1_57 (ih) hs
      ·
        refine zp_bind (zp_mono (xt_f_Space_load_c1  hs) fun r7 hr7 => ?_)
        refine zp_bind fun r8 _ => ?_
        refine zp_bind (zp_mono (xt_f_Outcomes_note_c1  hr7) fun r9 hr9 => ?_)
        exact xt_b_Outcomes_gather_c1_57 (ih) hr9
theorem xt_f_Outcomes_gather_c1 {σ0 : zS} {N : Nat} {σ : zS}  (hs : FTT σ0 σ) : zp (zf_Outcomes_gather_c1 N σ) (fun r => FTT σ0 r) := by
  unfold zf_Outcomes_gather_c1
  refine zp_bind (zp_mono (xt_f_Numbers_clear_c7  hs) fun r1 hr1 => ?_)
  refine zp_bind (zp_mono (xt_f_Numbers_clear_c8  hr1) fun r2 hr2 => ?_)
  refine zp_bind (zp_mono (xt_f_Arrays_fill_c8  hr2) fun r3 hr3 => ?_)
  exact xt_b_Outcomes_gather_c1_24  _ _ _ hr3
theorem xt_b_X_whole_102 {σ0 : zS} {N : Nat} {σ : zS} {v1 : Int32}  (hs : FTT σ0 σ) : zp (zb_X_whole_102 N σ v1) (fun r => FTT σ0 r.2) := by
  unfold zb_X_whole_102
  refine zp_chk fun _ => ?_
  exact zp_some hs
theorem xt_b_X_whole_101 {σ0 : zS} {N : Nat} {σ : zS} {v1 : Int32} {s0 : Int32} {s1 : Int32}  (hs : FTT σ0 σ) : zp (zb_X_whole_101 N σ v1 s0 s1) (fun r => FTT σ0 r.2) := by
  unfold zb_X_whole_101
  refine zp_chk fun _ => ?_
  exact xt_b_X_whole_102  (FTT.up (by decide) hs)
theorem xt_f_X_whole {σ0 : zS} {N : Nat} {σ : zS} {x1 : Int32}  (hs : FTT σ0 σ) : zp (zf_X_whole N σ x1) (fun r => FTT σ0 r.2) := by
  unfold zf_X_whole
  refine zp_ite (fun _ => ?_) fun _ => ?_
  ·
    refine zp_ite (fun _ => ?_) fun _ => ?_
    ·
      exact zp_some hs
    ·
      refine zp_ite (fun _ => ?_) fun _ => ?_
      ·
        exact zp_some hs
      ·
        refine zp_ite (fun _ => ?_) fun _ => ?_
        ·
          refine zp_chk fun _ => ?_
          refine zp_ite (fun _ => ?_) fun _ => ?_
          ·
            exact xt_b_X_whole_102  hs
          ·
            refine zp_chk fun _ => ?_
            refine zp_bind (zp_mono (xt_f_Space_explore_c1  (FTT.up (by decide) hs)) fun r9 hr9 => ?_)
            refine zp_ite (fun _ => ?_) fun _ => ?_
            ·
              exact xt_b_X_whole_102  hr9
            ·
              refine zp_bind (zp_mono (xt_f_Outcomes_gather_c1  hr9) fun r11 hr11 => ?_)
              refine zp_bind fun r12 _ => ?_
              refine zp_ite (fun _ => ?_) fun _ => ?_
              ·
                exact xt_b_X_whole_101  hr11
              ·
                exact xt_b_X_whole_101  hr11
        ·
          exact zp_some hs
  ·
    exact zp_some hs
theorem xt_f_Numbers_clear_c9 {σ0 : zS} {σ : zS}  (hs : FTT σ0 σ) : zp (zf_Numbers_clear_c9 σ) (fun r => FTT σ0 r) := by
  unfold zf_Numbers_clear_c9
  exact zp_some (FTT.up (by decide) hs)
theorem xt_f_Numbers_add_c9 {σ0 : zS} {σ : zS} {x1 : Int32}  (hs : FTT σ0 σ) : zp (zf_Numbers_add_c9 σ x1) (fun r => FTT σ0 r) := by
  unfold zf_Numbers_add_c9
  refine zp_ite (fun _ => ?_) fun _ => ?_
  ·
    exact zp_some hs
  ·
    refine zp_ite (fun _ => ?_) fun _ => ?_
    ·
      exact zp_some hs
    ·
      refine zp_chk fun _ => ?_
      exact zp_some (FTT.up (by decide) (FTT.up (by decide) hs))
theorem xt_b_Judge_listDoubts_66 {σ0 : zS} {k27 : zS → Int32 → Int32 → Int32 → Option (zS)} {N : Nat} {σ : zS} {v1 : Int32} {v2 : Int32} {v3 : Int32} (hk27 : ∀ (y0 : zS) (y1 : Int32) (y2 : Int32) (y3 : Int32), FTT σ0 y0 → zp (k27 y0 y1 y2 y3) (fun r => FTT σ0 r)) (hs : FTT σ0 σ) : zp (zb_Judge_listDoubts_66 k27 N σ v1 v2 v3) (fun r => FTT σ0 r) := by
  unfold zb_Judge_listDoubts_66
  exact hk27 _ _ _ _ hs
theorem xt_b_Judge_listDoubts_27 {σ0 : zS} {k9 : zS → Int32 → Option (zS)} {N : Nat} (hk9 : ∀ (y0 : zS) (y1 : Int32), FTT σ0 y0 → zp (k9 y0 y1) (fun r => FTT σ0 r)) : ∀ (n : Nat) (σ : zS) (v1 : Int32) (v2 : Int32) (v3 : Int32), FTT σ0 σ → zp (zb_Judge_listDoubts_27 k9 N n σ v1 v2 v3) (fun r => FTT σ0 r) := by
  intro n
  induction n with
  | zero => intro _ _ _ _ _; exact zp_none
  | succ n ih =>
    intro σ v1 v2 v3 hs
    rw [zb_Judge_listDoubts_27]
    refine zp_ite (fun _ => ?_) fun _ => ?_
    ·
      exact hk9 _ _ hs
    ·
      refine zp_bind fun r4 _ => ?_
      refine zp_ite (fun _ => ?_) fun _ => ?_
      ·
        exact xt_b_Judge_listDoubts_66 (ih) hs
      ·
        refine zp_bind (zp_mono (xt_f_Numbers_add_c9  hs) fun r6 hr6 => ?_)
        exact xt_b_Judge_listDoubts_66 (ih) hr6
theorem xt_b_Judge_listDoubts_9 {σ0 : zS} {N : Nat}  : ∀ (n : Nat) (σ : zS) (v1 : Int32), FTT σ0 σ → zp (zb_Judge_listDoubts_9 N n σ v1) (fun r => FTT σ0 r) := by
  intro n
  induction n with
  | zero => intro _ _ _; exact zp_none
  | succ n ih =>
    intro σ v1 hs
    rw [zb_Judge_listDoubts_9]
    refine zp_ite (fun _ => ?_) fun _ => ?_
    ·
      exact zp_some hs
    ·
      exact xt_b_Judge_listDoubts_27 (ih) _ _ _ _ _ hs
theorem xt_f_Judge_listDoubts {σ0 : zS} {N : Nat} {σ : zS}  (hs : FTT σ0 σ) : zp (zf_Judge_listDoubts N σ) (fun r => FTT σ0 r) := by
  unfold zf_Judge_listDoubts
  refine zp_bind (zp_mono (xt_f_Numbers_clear_c9  hs) fun r1 hr1 => ?_)
  exact xt_b_Judge_listDoubts_9  _ _ _ hr1
theorem xt_b_Judge_countRingsWith_116 {σ0 : zS} {kr : zS → Int32 → Int32 → Option (Int32 × zS)} {k6 : zS → Int32 → Int32 → Int32 → Int32 → Int32 → Int32 → Option (Int32 × zS)} {N : Nat} {σ : zS} {v1 : Int32} {v2 : Int32} {v3 : Int32} {v4 : Int32} {v5 : Int32} {v6 : Int32} (hkr : ∀ (y0 : zS) (y1 : Int32) (y2 : Int32), FTT σ0 y0 → zp (kr y0 y1 y2) (fun r => FTT σ0 r.2)) (hk6 : ∀ (y0 : zS) (y1 : Int32) (y2 : Int32) (y3 : Int32) (y4 : Int32) (y5 : Int32) (y6 : Int32), FTT σ0 y0 → zp (k6 y0 y1 y2 y3 y4 y5 y6) (fun r => FTT σ0 r.2)) (hs : FTT σ0 σ) : zp (zb_Judge_countRingsWith_116 kr k6 N σ v1 v2 v3 v4 v5 v6) (fun r => FTT σ0 r.2) := by
  unfold zb_Judge_countRingsWith_116
  exact hk6 _ _ _ _ _ _ _ hs
theorem xt_b_Judge_countRingsWith_6 {σ0 : zS} {kr : zS → Int32 → Int32 → Option (Int32 × zS)} {N : Nat} (hkr : ∀ (y0 : zS) (y1 : Int32) (y2 : Int32), FTT σ0 y0 → zp (kr y0 y1 y2) (fun r => FTT σ0 r.2)) : ∀ (n : Nat) (σ : zS) (v1 : Int32) (v2 : Int32) (v3 : Int32) (v4 : Int32) (v5 : Int32) (v6 : Int32), FTT σ0 σ → zp (zb_Judge_countRingsWith_6 kr N n σ v1 v2 v3 v4 v5 v6) (fun r => FTT σ0 r.2) := by
  intro n
  induction n with
  | zero => intro _ _ _ _ _ _ _ _; exact zp_none
  | succ n ih =>
    intro σ v1 v2 v3 v4 v5 v6 hs
    rw [zb_Judge_countRingsWith_6]
    refine zp_bind fun r1 _ => ?_
    refine zp_ite (fun _ => ?_) fun _ => ?_
    ·
      exact zp_some hs
    ·
      refine zp_ite (fun _ => ?_) fun _ => ?_
      ·
        exact zp_some hs
      ·
        refine zp_bind fun r4 _ => ?_
        refine zp_chk fun _ => ?_
        refine zp_chk fun _ => ?_
        refine zp_ite (fun _ => ?_) fun _ => ?_
        ·
          exact xt_b_Judge_countRingsWith_116 (hkr) (ih) hs
        ·
          refine zp_ite (fun _ => ?_) fun _ => ?_
          ·
            exact xt_b_Judge_countRingsWith_116 (hkr) (ih) hs
          ·
            refine zp_ite (fun _ => ?_) fun _ => ?_
            ·
              exact xt_b_Judge_countRingsWith_116 (hkr) (ih) hs
            ·
              refine zp_bind fun r10 _ => ?_
              refine zp_ite (fun _ => ?_) fun _ => ?_
              ·
                exact xt_b_Judge_countRingsWith_116 (hkr) (ih) hs
              ·
                refine zp_chk fun _ => ?_
                refine zp_bind (zp_mono (hkr _ _ _ (FTT.up (by decide) hs)) fun r13 hr13 => ?_)
                exact xt_b_Judge_countRingsWith_116 (hkr) (ih) hr13
theorem xt_f_Judge_countRingsWith {σ0 : zS} {kr : zS → Int32 → Int32 → Option (Int32 × zS)} {N : Nat} {σ : zS} {x1 : Int32} {x2 : Int32} {x3 : Int32} {x4 : Int32} (hkr : ∀ (y0 : zS) (y1 : Int32) (y2 : Int32), FTT σ0 y0 → zp (kr y0 y1 y2) (fun r => FTT σ0 r.2)) (hs : FTT σ0 σ) : zp (zf_Judge_countRingsWith kr N σ x1 x2 x3 x4) (fun r => FTT σ0 r.2) := by
  unfold zf_Judge_countRingsWith
  exact xt_b_Judge_countRingsWith_6 (hkr) _ _ _ _ _ _ _ _ hs
theorem xt_b_Judge_countRingsFrom_69 {σ0 : zS} {kr : zS → Int32 → Int32 → Option (Int32 × zS)} {N : Nat} (hkr : ∀ (y0 : zS) (y1 : Int32) (y2 : Int32), FTT σ0 y0 → zp (kr y0 y1 y2) (fun r => FTT σ0 r.2)) : ∀ (n : Nat) (σ : zS) (v1 : Int32) (v2 : Int32) (v4 : Int32) (v5 : Int32) (v6 : Int32), FTT σ0 σ → zp (zb_Judge_countRingsFrom_69 kr N n σ v1 v2 v4 v5 v6) (fun r => FTT σ0 r.2) := by
  intro n
  induction n with
  | zero => intro _ _ _ _ _ _ _; exact zp_none
  | succ n ih =>
    intro σ v1 v2 v4 v5 v6 hs
    rw [zb_Judge_countRingsFrom_69]
    refine zp_ite (fun _ => ?_) fun _ => ?_
    ·
      exact zp_some hs
    ·
      refine zp_bind (zp_mono (xt_f_Judge_countRingsWith (hkr) hs) fun r7 hr7 => ?_)
      exact ih _ _ _ _ _ _ hr7
theorem xt_b_Judge_countRingsFrom_59 {σ0 : zS} {kr : zS → Int32 → Int32 → Option (Int32 × zS)} {N : Nat} {σ : zS} {v1 : Int32} {v2 : Int32} {v3 : Int32} {v4 : Int32} {s0 : Int32} (hkr : ∀ (y0 : zS) (y1 : Int32) (y2 : Int32), FTT σ0 y0 → zp (kr y0 y1 y2) (fun r => FTT σ0 r.2)) (hs : FTT σ0 σ) : zp (zb_Judge_countRingsFrom_59 kr N σ v1 v2 v3 v4 s0) (fun r => FTT σ0 r.2) := by
  unfold zb_Judge_countRingsFrom_59
  exact xt_b_Judge_countRingsFrom_69 (hkr) _ _ _ _ _ _ _ hs
theorem xt_f_Judge_countRingsFromB {σ0 : zS} {kr : zS → Int32 → Int32 → Option (Int32 × zS)} {N : Nat} {σ : zS} {x1 : Int32} {x2 : Int32} (hkr : ∀ (y0 : zS) (y1 : Int32) (y2 : Int32), FTT σ0 y0 → zp (kr y0 y1 y2) (fun r => FTT σ0 r.2)) (hs : FTT σ0 σ) : zp (zf_Judge_countRingsFromB kr N σ x1 x2) (fun r => FTT σ0 r.2) := by
  unfold zf_Judge_countRingsFromB
  refine zp_ite (fun _ => ?_) fun _ => ?_
  ·
    exact zp_some hs
  ·
    refine zp_ite (fun _ => ?_) fun _ => ?_
    ·
      refine zp_chk fun _ => ?_
      refine zp_chk fun _ => ?_
      refine zp_ite (fun _ => ?_) fun _ => ?_
      ·
        exact xt_b_Judge_countRingsFrom_59 (hkr) hs
      ·
        refine zp_chk fun _ => ?_
        exact xt_b_Judge_countRingsFrom_59 (hkr) hs
    ·
      exact zp_some hs
theorem xt_f_Judge_countRingsFrom {σ0 : zS} {N : Nat}  : ∀ (n : Nat) (σ : zS) (x1 : Int32) (x2 : Int32), FTT σ0 σ → zp (zf_Judge_countRingsFrom N n σ x1 x2) (fun r => FTT σ0 r.2) := by
  intro n
  induction n with
  | zero => intro _ _ _ _; exact zp_none
  | succ n ih =>
    intro σ x1 x2 hs
    rw [zf_Judge_countRingsFrom]
    exact xt_f_Judge_countRingsFromB (ih) hs
theorem xt_b_Judge_countRings_63 {σ0 : zS} {k4 : zS → Int32 → Int32 → Option (Int32 × zS)} {N : Nat} {σ : zS} {v1 : Int32} {v2 : Int32} (hk4 : ∀ (y0 : zS) (y1 : Int32) (y2 : Int32), FTT σ0 y0 → zp (k4 y0 y1 y2) (fun r => FTT σ0 r.2)) (hs : FTT σ0 σ) : zp (zb_Judge_countRings_63 k4 N σ v1 v2) (fun r => FTT σ0 r.2) := by
  unfold zb_Judge_countRings_63
  exact hk4 _ _ _ hs
theorem xt_b_Judge_countRings_4 {σ0 : zS} {N : Nat}  : ∀ (n : Nat) (σ : zS) (v1 : Int32) (v2 : Int32), FTT σ0 σ → zp (zb_Judge_countRings_4 N n σ v1 v2) (fun r => FTT σ0 r.2) := by
  intro n
  induction n with
  | zero => intro _ _ _ _; exact zp_none
  | succ n ih =>
    intro σ v1 v2 hs
    rw [zb_Judge_countRings_4]
    refine zp_ite (fun _ => ?_) fun _ => ?_
    ·
      exact zp_some hs
    ·
      refine zp_bind fun r2 _ => ?_
      refine zp_chk fun _ => ?_
      refine zp_ite (fun _ => ?_) fun _ => ?_
      ·
        exact xt_b_Judge_countRings_63 (ih) hs
      ·
        refine zp_chk fun _ => ?_
        refine zp_bind (zp_mono (xt_f_Judge_countRingsFrom  _ _ _ _ (FTT.up (by decide) hs)) fun r6 hr6 => ?_)
        exact xt_b_Judge_countRings_63 (ih) hr6
theorem xt_f_Judge_countRings {σ0 : zS} {N : Nat} {σ : zS}  (hs : FTT σ0 σ) : zp (zf_Judge_countRings N σ) (fun r => FTT σ0 r.2) := by
  unfold zf_Judge_countRings
  exact xt_b_Judge_countRings_4  _ _ _ _ hs
theorem xt_b_Judge_prepare_14 {σ0 : zS} {N : Nat}  : ∀ (n : Nat) (σ : zS) (v1 : Int32), FTT σ0 σ → zp (zb_Judge_prepare_14 N n σ v1) (fun r => FTT σ0 r) := by
  intro n
  induction n with
  | zero => intro _ _ _; exact zp_none
  | succ n ih =>
    intro σ v1 hs
    rw [zb_Judge_prepare_14]
    refine zp_ite (fun _ => ?_) fun _ => ?_
    ·
      refine zp_bind (zp_mono (xt_f_Judge_listDoubts  hs) fun r3 hr3 => ?_)
      refine zp_bind (zp_mono (xt_f_Judge_countRings  hr3) fun r4 hr4 => ?_)
      exact zp_some (FTT.up (by decide) hr4)
    ·
      refine zp_bind fun r5 _ => ?_
      refine zp_chk fun _ => ?_
      exact ih _ _ (FTT.up (by decide) hs)
theorem xt_f_Judge_prepare {σ0 : zS} {N : Nat} {σ : zS}  (hs : FTT σ0 σ) : zp (zf_Judge_prepare N σ) (fun r => FTT σ0 r) := by
  unfold zf_Judge_prepare
  refine zp_ite (fun _ => ?_) fun _ => ?_
  ·
    exact zp_some hs
  ·
    exact xt_b_Judge_prepare_14  _ _ _ (FTT.up (by decide) hs)
theorem xt_f_X_doubts {σ0 : zS} {N : Nat} {σ : zS}  (hs : FTT σ0 σ) : zp (zf_X_doubts N σ) (fun r => FTT σ0 r.2) := by
  unfold zf_X_doubts
  refine zp_ite (fun _ => ?_) fun _ => ?_
  ·
    refine zp_bind (zp_mono (xt_f_Judge_prepare  hs) fun r2 hr2 => ?_)
    exact zp_some hr2
  ·
    exact zp_some hs
theorem xt_f_X_doubt {σ0 : zS} {N : Nat} {σ : zS} {x1 : Int32} {x2 : Int32}  (hs : FTT σ0 σ) : zp (zf_X_doubt N σ x1 x2) (fun r => FTT σ0 r.2) := by
  unfold zf_X_doubt
  refine zp_ite (fun _ => ?_) fun _ => ?_
  ·
    refine zp_bind (zp_mono (xt_f_Judge_prepare  hs) fun r2 hr2 => ?_)
    refine zp_bind fun r3 _ => ?_
    refine zp_bind fun r4 _ => ?_
    exact zp_some hr2
  ·
    exact zp_some hs
theorem xt_f_X_meet {σ0 : zS} {N : Nat} {σ : zS} {x1 : Int32} {x2 : Int32} {x3 : Int32} {x4 : Int32}  (hs : FTT σ0 σ) : zp (zf_X_meet N σ x1 x2 x3 x4) (fun r => FTT σ0 r.2) := by
  unfold zf_X_meet
  refine zp_ite (fun _ => ?_) fun _ => ?_
  ·
    refine zp_ite (fun _ => ?_) fun _ => ?_
    ·
      exact zp_some hs
    ·
      refine zp_bind fun r3 _ => ?_
      refine zp_ite (fun _ => ?_) fun _ => ?_
      ·
        exact zp_some hs
      ·
        refine zp_bind fun r5 _ => ?_
        refine zp_ite (fun _ => ?_) fun _ => ?_
        ·
          refine zp_bind (zp_mono (xt_f_Judge_prepare  hs) fun r7 hr7 => ?_)
          refine zp_bind fun r8 _ => ?_
          refine zp_ite (fun _ => ?_) fun _ => ?_
          ·
            exact zp_some hr7
          ·
            exact zp_some hr7
        ·
          exact zp_some hs
  ·
    exact zp_some hs
theorem xt_f_X_rings {σ0 : zS} {N : Nat} {σ : zS}  (hs : FTT σ0 σ) : zp (zf_X_rings N σ) (fun r => FTT σ0 r.2) := by
  unfold zf_X_rings
  refine zp_ite (fun _ => ?_) fun _ => ?_
  ·
    refine zp_bind (zp_mono (xt_f_Judge_prepare  hs) fun r2 hr2 => ?_)
    exact zp_some hr2
  ·
    exact zp_some hs
theorem xu_f_M_fault {σ0 : zS} {σ : zS}  (hs : FU σ0 σ) : zp (zf_M_fault σ) (fun r => FU σ0 r.2) := by
  unfold zf_M_fault
  exact zp_some (FU.u8 (by decide) hs)
theorem xu_f_M_count {σ0 : zS} {N : Nat} {σ : zS} {x1 : Int32}  (hs : FU σ0 σ) : zp (zf_M_count N σ x1) (fun r => FU σ0 r.2) := by
  unfold zf_M_count
  refine zp_ite (fun _ => ?_) fun _ => ?_
  ·
    refine zp_ite (fun _ => ?_) fun _ => ?_
    ·
      exact zp_some (FU.u8 (by decide) hs)
    ·
      refine zp_ite (fun _ => ?_) fun _ => ?_
      ·
        exact zp_some (FU.u8 (by decide) hs)
      ·
        refine zp_ite (fun _ => ?_) fun _ => ?_
        ·
          exact zp_some (FU.u8 (by decide) hs)
        ·
          refine zp_ite (fun _ => ?_) fun _ => ?_
          ·
            exact zp_some (FU.u8 (by decide) hs)
          ·
            refine zp_ite (fun _ => ?_) fun _ => ?_
            ·
              refine zp_bind fun r7 _ => ?_
              exact zp_some (FU.u8 (by decide) hs)
            ·
              exact zp_some (FU.u8 (by decide) hs)
  ·
    exact zp_some (FU.u8 (by decide) hs)
theorem xu_b_M_step_192 {σ0 : zS} {σ : zS} {v4 : Int32}  (hs : FU σ0 σ) : zp (zb_M_step_192 σ v4) (fun r => FU σ0 r.2) := by
  unfold zb_M_step_192
  refine zp_chk fun _ => ?_
  exact zp_some hs
theorem xu_b_M_step_93 {σ0 : zS} {σ : zS} {v3 : Int32} {v4 : Int32} {s0 : Int32}  (hs : FU σ0 σ) : zp (zb_M_step_93 σ v3 v4 s0) (fun r => FU σ0 r.2) := by
  unfold zb_M_step_93
  refine zp_ite (fun _ => ?_) fun _ => ?_
  ·
    refine zp_chk fun _ => ?_
    exact zp_some hs
  ·
    refine zp_ite (fun _ => ?_) fun _ => ?_
    ·
      refine zp_ite (fun _ => ?_) fun _ => ?_
      ·
        exact zp_some hs
      ·
        refine zp_chk fun _ => ?_
        exact zp_some hs
    ·
      refine zp_ite (fun _ => ?_) fun _ => ?_
      ·
        refine zp_chk fun _ => ?_
        exact zp_some hs
      ·
        refine zp_ite (fun _ => ?_) fun _ => ?_
        ·
          refine zp_chk fun _ => ?_
          refine zp_ite (fun _ => ?_) fun _ => ?_
          ·
            exact xu_b_M_step_192  hs
          ·
            refine zp_chk fun _ => ?_
            refine zp_ite (fun _ => ?_) fun _ => ?_
            ·
              exact zp_some hs
            ·
              exact xu_b_M_step_192  hs
        ·
          refine zp_ite (fun _ => ?_) fun _ => ?_
          ·
            refine zp_chk fun _ => ?_
            exact zp_some hs
          ·
            refine zp_ite (fun _ => ?_) fun _ => ?_
            ·
              refine zp_chk fun _ => ?_
              exact zp_some hs
            ·
              exact zp_some hs
theorem xu_b_M_step_88 {σ0 : zS} {σ : zS} {v3 : Int32} {v4 : Int32}  (hs : FU σ0 σ) : zp (zb_M_step_88 σ v3 v4) (fun r => FU σ0 r.2) := by
  unfold zb_M_step_88
  exact xu_b_M_step_93  hs
theorem xu_f_M_step {σ0 : zS} {σ : zS} {x1 : Int32} {x2 : Int32} {x3 : Int32}  (hs : FU σ0 σ) : zp (zf_M_step σ x1 x2 x3) (fun r => FU σ0 r.2) := by
  unfold zf_M_step
  refine zp_ite (fun _ => ?_) fun _ => ?_
  ·
    refine zp_bind fun r2 _ => ?_
    refine zp_ite (fun _ => ?_) fun _ => ?_
    ·
      refine zp_chk fun _ => ?_
      refine zp_ite (fun _ => ?_) fun _ => ?_
      ·
        exact xu_b_M_step_88  (FU.u8 (by decide) hs)
      ·
        refine zp_chk fun _ => ?_
        refine zp_ite (fun _ => ?_) fun _ => ?_
        ·
          exact xu_b_M_step_88  (FU.u8 (by decide) hs)
        ·
          refine zp_chk fun _ => ?_
          refine zp_bind fun r26 _ => ?_
          refine zp_ite (fun _ => ?_) fun _ => ?_
          ·
            exact xu_b_M_step_88  (FU.u8 (by decide) hs)
          ·
            refine zp_chk fun _ => ?_
            refine zp_bind fun r29 _ => ?_
            refine zp_ite (fun _ => ?_) fun _ => ?_
            ·
              exact xu_b_M_step_93  (FU.u8 (by decide) hs)
            ·
              exact xu_b_M_step_88  (FU.u8 (by decide) hs)
    ·
      exact zp_some (FU.u8 (by decide) hs)
  ·
    exact zp_some (FU.u8 (by decide) hs)
theorem xu_b_M_forget_2 {σ0 : zS} {N : Nat}  : ∀ (n : Nat) (σ : zS) (v1 : Int32) (v2 : Int32), FU σ0 σ → zp (zb_M_forget_2 N n σ v1 v2) (fun r => FU σ0 r) := by
  intro n
  induction n with
  | zero => intro _ _ _ _; exact zp_none
  | succ n ih =>
    intro σ v1 v2 hs
    rw [zb_M_forget_2]
    refine zp_ite (fun _ => ?_) fun _ => ?_
    ·
      exact zp_some (FU.u8 (by decide) (FU.u8 (by decide) hs))
    ·
      refine zp_chk fun _ => ?_
      exact ih _ _ _ (FU.up (by decide) hs)
theorem xu_f_M_forget {σ0 : zS} {N : Nat} {σ : zS} {x1 : Int32}  (hs : FU σ0 σ) : zp (zf_M_forget N σ x1) (fun r => FU σ0 r) := by
  unfold zf_M_forget
  exact xu_b_M_forget_2  _ _ _ _ hs
theorem xu_b_M_letGo_42 {σ0 : zS} {k2 : zS → Int32 → Int32 → Option (zS)} {N : Nat} {σ : zS} {v1 : Int32} {v2 : Int32} (hk2 : ∀ (y0 : zS) (y1 : Int32) (y2 : Int32), FU σ0 y0 → zp (k2 y0 y1 y2) (fun r => FU σ0 r)) (hs : FU σ0 σ) : zp (zb_M_letGo_42 k2 N σ v1 v2) (fun r => FU σ0 r) := by
  unfold zb_M_letGo_42
  exact hk2 _ _ _ hs
theorem xu_b_M_letGo_2 {σ0 : zS} {N : Nat}  : ∀ (n : Nat) (σ : zS) (v1 : Int32) (v2 : Int32), FU σ0 σ → zp (zb_M_letGo_2 N n σ v1 v2) (fun r => FU σ0 r) := by
  intro n
  induction n with
  | zero => intro _ _ _ _; exact zp_none
  | succ n ih =>
    intro σ v1 v2 hs
    rw [zb_M_letGo_2]
    refine zp_ite (fun _ => ?_) fun _ => ?_
    ·
      exact zp_some hs
    ·
      refine zp_chk fun _ => ?_
      refine zp_ite (fun _ => ?_) fun _ => ?_
      ·
        exact xu_b_M_letGo_42 (ih) hs
      ·
        refine zp_chk fun _ => ?_
        refine zp_chk fun _ => ?_
        exact xu_b_M_letGo_42 (ih) (FU.up (by decide) (FU.up (by decide) hs))
theorem xu_f_M_letGo {σ0 : zS} {N : Nat} {σ : zS} {x1 : Int32}  (hs : FU σ0 σ) : zp (zf_M_letGo N σ x1) (fun r => FU σ0 r) := by
  unfold zf_M_letGo
  exact xu_b_M_letGo_2  _ _ _ _ hs
theorem xu_f_M_goTo {σ0 : zS} {N : Nat} {σ : zS} {x1 : Int32} {x2 : Int32}  (hs : FU σ0 σ) : zp (zf_M_goTo N σ x1 x2) (fun r => FU σ0 r) := by
  unfold zf_M_goTo
  refine zp_bind fun r1 _ => ?_
  refine zp_chk fun _ => ?_
  refine zp_chk fun _ => ?_
  refine zp_ite (fun _ => ?_) fun _ => ?_
  ·
    exact zp_some (FU.up (by decide) hs)
  ·
    refine zp_bind fun r5 _ => ?_
    refine zp_chk fun _ => ?_
    refine zp_bind (zp_mono (xu_f_M_letGo  (FU.up (by decide) (FU.up (by decide) hs))) fun r7 hr7 => ?_)
    exact zp_some hr7
theorem xu_f_M_begin {σ0 : zS} {N : Nat} {σ : zS} {x1 : Int32}  (hs : FU σ0 σ) : zp (zf_M_begin N σ x1) (fun r => FU σ0 r) := by
  unfold zf_M_begin
  refine zp_bind fun r1 _ => ?_
  refine zp_chk fun _ => ?_
  refine zp_bind (zp_mono (xu_f_M_goTo  (FU.up (by decide) hs)) fun r3 hr3 => ?_)
  exact zp_some hr3
theorem xu_b_M_firstState_136 {σ0 : zS} {k51 : zS → Int32 → Option (zS)} {N : Nat} {σ : zS} {v1 : Int32} (hk51 : ∀ (y0 : zS) (y1 : Int32), FU σ0 y0 → zp (k51 y0 y1) (fun r => FU σ0 r)) (hs : FU σ0 σ) : zp (zb_M_firstState_136 k51 N σ v1) (fun r => FU σ0 r) := by
  unfold zb_M_firstState_136
  exact hk51 _ _ hs
theorem xu_b_M_firstState_120 {σ0 : zS} {k63 : zS → Int32 → Int32 → Int32 → Option (zS)} {N : Nat} {σ : zS} {v1 : Int32} {v3 : Int32} {s0 : Int32} (hk63 : ∀ (y0 : zS) (y1 : Int32) (y2 : Int32) (y3 : Int32), FU σ0 y0 → zp (k63 y0 y1 y2 y3) (fun r => FU σ0 r)) (hs : FU σ0 σ) : zp (zb_M_firstState_120 k63 N σ v1 v3 s0) (fun r => FU σ0 r) := by
  unfold zb_M_firstState_120
  exact hk63 _ _ _ _ hs
theorem xu_b_M_firstState_119 {σ0 : zS} {k63 : zS → Int32 → Int32 → Int32 → Option (zS)} {N : Nat} {σ : zS} {v1 : Int32} {v3 : Int32} (hk63 : ∀ (y0 : zS) (y1 : Int32) (y2 : Int32) (y3 : Int32), FU σ0 y0 → zp (k63 y0 y1 y2 y3) (fun r => FU σ0 r)) (hs : FU σ0 σ) : zp (zb_M_firstState_119 k63 N σ v1 v3) (fun r => FU σ0 r) := by
  unfold zb_M_firstState_119
  exact xu_b_M_firstState_120 (hk63) hs
theorem xu_b_M_firstState_115 {σ0 : zS} {k63 : zS → Int32 → Int32 → Int32 → Option (zS)} {N : Nat} {σ : zS} {v1 : Int32} {v3 : Int32} (hk63 : ∀ (y0 : zS) (y1 : Int32) (y2 : Int32) (y3 : Int32), FU σ0 y0 → zp (k63 y0 y1 y2 y3) (fun r => FU σ0 r)) (hs : FU σ0 σ) : zp (zb_M_firstState_115 k63 N σ v1 v3) (fun r => FU σ0 r) := by
  unfold zb_M_firstState_115
  exact xu_b_M_firstState_120 (hk63) hs
theorem xu_b_M_firstState_63 {σ0 : zS} {k51 : zS → Int32 → Option (zS)} {N : Nat} (hk51 : ∀ (y0 : zS) (y1 : Int32), FU σ0 y0 → zp (k51 y0 y1) (fun r => FU σ0 r)) : ∀ (n : Nat) (σ : zS) (v1 : Int32) (v2 : Int32) (v3 : Int32), FU σ0 σ → zp (zb_M_firstState_63 k51 N n σ v1 v2 v3) (fun r => FU σ0 r) := by
  intro n
  induction n with
  | zero => intro _ _ _ _ _; exact zp_none
  | succ n ih =>
    intro σ v1 v2 v3 hs
    rw [zb_M_firstState_63]
    refine zp_ite (fun _ => ?_) fun _ => ?_
    ·
      refine zp_ite (fun _ => ?_) fun _ => ?_
      ·
        exact xu_b_M_firstState_136 (hk51) hs
      ·
        refine zp_bind (zp_mono (xu_f_M_begin  hs) fun r6 hr6 => ?_)
        exact xu_b_M_firstState_136 (hk51) hr6
    ·
      refine zp_ite (fun _ => ?_) fun _ => ?_
      ·
        exact xu_b_M_firstState_115 (ih) hs
      ·
        refine zp_chk fun _ => ?_
        refine zp_ite (fun _ => ?_) fun _ => ?_
        ·
          exact xu_b_M_firstState_119 (ih) hs
        ·
          refine zp_chk fun _ => ?_
          refine zp_ite (fun _ => ?_) fun _ => ?_
          ·
            exact xu_b_M_firstState_119 (ih) hs
          ·
            refine zp_chk fun _ => ?_
            refine zp_ite (fun _ => ?_) fun _ => ?_
            ·
              exact xu_b_M_firstState_119 (ih) hs
            ·
              exact xu_b_M_firstState_115 (ih) hs
theorem xu_b_M_firstState_51 {σ0 : zS} {N : Nat}  : ∀ (n : Nat) (σ : zS) (v1 : Int32), FU σ0 σ → zp (zb_M_firstState_51 N n σ v1) (fun r => FU σ0 r) := by
  intro n
  induction n with
  | zero => intro _ _ _; exact zp_none
  | succ n ih =>
    intro σ v1 hs
    rw [zb_M_firstState_51]
    refine zp_ite (fun _ => ?_) fun _ => ?_
    ·
      exact zp_some hs
    ·
      exact xu_b_M_firstState_63 (ih) _ _ _ _ _ hs
theorem xu_b_M_firstState_23 {σ0 : zS} {N : Nat}  : ∀ (n : Nat) (σ : zS) (v1 : Int32), FU σ0 σ → zp (zb_M_firstState_23 N n σ v1) (fun r => FU σ0 r) := by
  intro n
  induction n with
  | zero => intro _ _ _; exact zp_none
  | succ n ih =>
    intro σ v1 hs
    rw [zb_M_firstState_23]
    refine zp_ite (fun _ => ?_) fun _ => ?_
    ·
      exact xu_b_M_firstState_51  _ _ _ hs
    ·
      refine zp_chk fun _ => ?_
      refine zp_chk fun _ => ?_
      exact ih _ _ (FU.up (by decide) hs)
theorem xu_b_M_firstState_2 {σ0 : zS} {N : Nat}  : ∀ (n : Nat) (σ : zS) (v1 : Int32), FU σ0 σ → zp (zb_M_firstState_2 N n σ v1) (fun r => FU σ0 r) := by
  intro n
  induction n with
  | zero => intro _ _ _; exact zp_none
  | succ n ih =>
    intro σ v1 hs
    rw [zb_M_firstState_2]
    refine zp_ite (fun _ => ?_) fun _ => ?_
    ·
      exact xu_b_M_firstState_23  _ _ _ hs
    ·
      refine zp_chk fun _ => ?_
      exact ih _ _ (FU.up (by decide) hs)
theorem xu_f_M_firstState {σ0 : zS} {N : Nat} {σ : zS}  (hs : FU σ0 σ) : zp (zf_M_firstState N σ) (fun r => FU σ0 r) := by
  unfold zf_M_firstState
  exact xu_b_M_firstState_2  _ _ _ hs
theorem xu_b_M_put_145 {σ0 : zS} {N : Nat}  : ∀ (n : Nat) (σ : zS) (v1 : Int32) (v2 : Int32) (v3 : Int32), FU σ0 σ → zp (zb_M_put_145 N n σ v1 v2 v3) (fun r => FU σ0 r.2) := by
  intro n
  induction n with
  | zero => intro _ _ _ _ _; exact zp_none
  | succ n ih =>
    intro σ v1 v2 v3 hs
    rw [zb_M_put_145]
    refine zp_ite (fun _ => ?_) fun _ => ?_
    ·
      refine zp_chk fun _ => ?_
      refine zp_chk fun _ => ?_
      refine zp_chk fun _ => ?_
      exact zp_some (FU.u8 (by decide) (FU.up (by decide) (FU.up (by decide) hs)))
    ·
      refine zp_chk fun _ => ?_
      refine zp_chk fun _ => ?_
      exact ih _ _ _ _ (FU.up (by decide) hs)
theorem xu_b_M_put_105 {σ0 : zS} {k50 : zS → Int32 → Int32 → Option (Int32 × zS)} {N : Nat} {σ : zS} {v1 : Int32} {v2 : Int32} {v3 : Int32} (hk50 : ∀ (y0 : zS) (y1 : Int32) (y2 : Int32), FU σ0 y0 → zp (k50 y0 y1 y2) (fun r => FU σ0 r.2)) (hs : FU σ0 σ) : zp (zb_M_put_105 k50 N σ v1 v2 v3) (fun r => FU σ0 r.2) := by
  unfold zb_M_put_105
  refine zp_ite (fun _ => ?_) fun _ => ?_
  ·
    refine zp_chk fun _ => ?_
    exact hk50 _ _ _ hs
  ·
    exact zp_some hs
theorem xu_b_M_put_98 {σ0 : zS} {k60 : zS → Int32 → Int32 → Int32 → Int32 → Option (Int32 × zS)} {N : Nat} {σ : zS} {v1 : Int32} {v2 : Int32} {v4 : Int32} {s0 : Int32} (hk60 : ∀ (y0 : zS) (y1 : Int32) (y2 : Int32) (y3 : Int32) (y4 : Int32), FU σ0 y0 → zp (k60 y0 y1 y2 y3 y4) (fun r => FU σ0 r.2)) (hs : FU σ0 σ) : zp (zb_M_put_98 k60 N σ v1 v2 v4 s0) (fun r => FU σ0 r.2) := by
  unfold zb_M_put_98
  exact hk60 _ _ _ _ _ hs
theorem xu_b_M_put_60 {σ0 : zS} {k50 : zS → Int32 → Int32 → Option (Int32 × zS)} {N : Nat} (hk50 : ∀ (y0 : zS) (y1 : Int32) (y2 : Int32), FU σ0 y0 → zp (k50 y0 y1 y2) (fun r => FU σ0 r.2)) : ∀ (n : Nat) (σ : zS) (v1 : Int32) (v2 : Int32) (v3 : Int32) (v4 : Int32), FU σ0 σ → zp (zb_M_put_60 k50 N n σ v1 v2 v3 v4) (fun r => FU σ0 r.2) := by
  intro n
  induction n with
  | zero => intro _ _ _ _ _ _; exact zp_none
  | succ n ih =>
    intro σ v1 v2 v3 v4 hs
    rw [zb_M_put_60]
    refine zp_ite (fun _ => ?_) fun _ => ?_
    ·
      exact xu_b_M_put_105 (hk50) hs
    ·
      refine zp_ite (fun _ => ?_) fun _ => ?_
      ·
        exact xu_b_M_put_105 (hk50) hs
      ·
        refine zp_chk fun _ => ?_
        refine zp_chk fun _ => ?_
        refine zp_ite (fun _ => ?_) fun _ => ?_
        ·
          exact xu_b_M_put_98 (ih) hs
        ·
          exact xu_b_M_put_98 (ih) hs
theorem xu_b_M_put_50 {σ0 : zS} {N : Nat}  : ∀ (n : Nat) (σ : zS) (v1 : Int32) (v2 : Int32), FU σ0 σ → zp (zb_M_put_50 N n σ v1 v2) (fun r => FU σ0 r.2) := by
  intro n
  induction n with
  | zero => intro _ _ _ _; exact zp_none
  | succ n ih =>
    intro σ v1 v2 hs
    rw [zb_M_put_50]
    refine zp_ite (fun _ => ?_) fun _ => ?_
    ·
      refine zp_ite (fun _ => ?_) fun _ => ?_
      ·
        exact xu_b_M_put_145  _ _ _ _ _ hs
      ·
        exact zp_some hs
    ·
      exact xu_b_M_put_60 (ih) _ _ _ _ _ _ hs
theorem xu_b_M_put_5 {σ0 : zS} {N : Nat}  : ∀ (n : Nat) (σ : zS) (v1 : Int32) (v2 : Int32), FU σ0 σ → zp (zb_M_put_5 N n σ v1 v2) (fun r => FU σ0 r.2) := by
  intro n
  induction n with
  | zero => intro _ _ _ _; exact zp_none
  | succ n ih =>
    intro σ v1 v2 hs
    rw [zb_M_put_5]
    refine zp_ite (fun _ => ?_) fun _ => ?_
    ·
      refine zp_chk fun _ => ?_
      exact xu_b_M_put_50  _ _ _ _ hs
    ·
      refine zp_chk fun _ => ?_
      exact ih _ _ _ hs
theorem xu_f_M_put {σ0 : zS} {N : Nat} {σ : zS}  (hs : FU σ0 σ) : zp (zf_M_put N σ) (fun r => FU σ0 r.2) := by
  unfold zf_M_put
  exact xu_b_M_put_5  _ _ _ _ hs
theorem xu_b_M_load_2 {σ0 : zS} {N : Nat}  : ∀ (n : Nat) (σ : zS) (v1 : Int32) (v2 : Int32), FU σ0 σ → zp (zb_M_load_2 N n σ v1 v2) (fun r => FU σ0 r) := by
  intro n
  induction n with
  | zero => intro _ _ _ _; exact zp_none
  | succ n ih =>
    intro σ v1 v2 hs
    rw [zb_M_load_2]
    refine zp_ite (fun _ => ?_) fun _ => ?_
    ·
      exact zp_some hs
    ·
      refine zp_chk fun _ => ?_
      refine zp_chk fun _ => ?_
      exact ih _ _ _ (FU.up (by decide) hs)
theorem xu_f_M_load {σ0 : zS} {N : Nat} {σ : zS} {x1 : Int32}  (hs : FU σ0 σ) : zp (zf_M_load N σ x1) (fun r => FU σ0 r) := by
  unfold zf_M_load
  exact xu_b_M_load_2  _ _ _ _ hs
theorem xu_f_M_failing {σ0 : zS} {N : Nat} {σ : zS} {x1 : Int32}  (hs : FU σ0 σ) : zp (zf_M_failing N σ x1) (fun r => FU σ0 r) := by
  unfold zf_M_failing
  refine zp_bind fun r1 _ => ?_
  refine zp_chk fun _ => ?_
  refine zp_bind (zp_mono (xu_f_M_letGo  (FU.up (by decide) hs)) fun r3 hr3 => ?_)
  exact zp_some hr3
theorem xu_b_M_wake_70 {σ0 : zS} {k5 : zS → Int32 → Int32 → Int32 → Int32 → Option (zS)} {N : Nat} {σ : zS} {v1 : Int32} {v2 : Int32} {v3 : Int32} {v4 : Int32} (hk5 : ∀ (y0 : zS) (y1 : Int32) (y2 : Int32) (y3 : Int32) (y4 : Int32), FU σ0 y0 → zp (k5 y0 y1 y2 y3 y4) (fun r => FU σ0 r)) (hs : FU σ0 σ) : zp (zb_M_wake_70 k5 N σ v1 v2 v3 v4) (fun r => FU σ0 r) := by
  unfold zb_M_wake_70
  exact hk5 _ _ _ _ _ hs
theorem xu_b_M_wake_5 {σ0 : zS} {N : Nat}  : ∀ (n : Nat) (σ : zS) (v1 : Int32) (v2 : Int32) (v3 : Int32) (v4 : Int32), FU σ0 σ → zp (zb_M_wake_5 N n σ v1 v2 v3 v4) (fun r => FU σ0 r) := by
  intro n
  induction n with
  | zero => intro _ _ _ _ _ _; exact zp_none
  | succ n ih =>
    intro σ v1 v2 v3 v4 hs
    rw [zb_M_wake_5]
    refine zp_ite (fun _ => ?_) fun _ => ?_
    ·
      exact zp_some hs
    ·
      refine zp_ite (fun _ => ?_) fun _ => ?_
      ·
        exact zp_some hs
      ·
        refine zp_bind fun r3 _ => ?_
        refine zp_ite (fun _ => ?_) fun _ => ?_
        ·
          exact xu_b_M_wake_70 (ih) hs
        ·
          refine zp_bind fun r5 _ => ?_
          refine zp_chk fun _ => ?_
          refine zp_chk fun _ => ?_
          refine zp_ite (fun _ => ?_) fun _ => ?_
          ·
            exact xu_b_M_wake_70 (ih) hs
          ·
            refine zp_bind fun r9 _ => ?_
            refine zp_chk fun _ => ?_
            exact xu_b_M_wake_70 (ih) (FU.up (by decide) hs)
theorem xu_f_M_wake {σ0 : zS} {N : Nat} {σ : zS} {x1 : Int32} {x2 : Int32}  (hs : FU σ0 σ) : zp (zf_M_wake N σ x1 x2) (fun r => FU σ0 r) := by
  unfold zf_M_wake
  exact xu_b_M_wake_5  _ _ _ _ _ _ hs
theorem xu_b_M_doStep_618 {σ0 : zS} {N : Nat} {σ : zS} {v1 : Int32} {v2 : Int32}  (hs : FU σ0 σ) : zp (zb_M_doStep_618 N σ v1 v2) (fun r => FU σ0 r) := by
  unfold zb_M_doStep_618
  refine zp_chk fun _ => ?_
  refine zp_bind (zp_mono (xu_f_M_goTo  hs) fun r25 hr25 => ?_)
  exact zp_some hr25
theorem xu_b_M_doStep_563 {σ0 : zS} {N : Nat} {σ : zS} {v1 : Int32} {v2 : Int32} {s0 : Int32} {s1 : Int32}  (hs : FU σ0 σ) : zp (zb_M_doStep_563 N σ v1 v2 s0 s1) (fun r => FU σ0 r) := by
  unfold zb_M_doStep_563
  refine zp_bind (zp_mono (xu_f_M_wake  hs) fun r38 hr38 => ?_)
  exact xu_b_M_doStep_618  hr38
theorem xu_b_M_doStep_462 {σ0 : zS} {N : Nat} {σ : zS} {s0 : Int32} {s1 : Int32}  (hs : FU σ0 σ) : zp (zb_M_doStep_462 N σ s0 s1) (fun r => FU σ0 r) := by
  unfold zb_M_doStep_462
  refine zp_bind (zp_mono (xu_f_M_goTo  hs) fun r56 hr56 => ?_)
  exact zp_some hr56
theorem xu_b_M_doStep_432 {σ0 : zS} {N : Nat} {σ : zS} {v1 : Int32} {v2 : Int32} {s0 : Int32} {s1 : Int32}  (hs : FU σ0 σ) : zp (zb_M_doStep_432 N σ v1 v2 s0 s1) (fun r => FU σ0 r) := by
  unfold zb_M_doStep_432
  refine zp_chk fun _ => ?_
  exact xu_b_M_doStep_618  (FU.up (by decide) hs)
theorem xu_b_M_doStep_335 {σ0 : zS} {N : Nat} {σ : zS} {v1 : Int32} {v2 : Int32} {s0 : Int32}  (hs : FU σ0 σ) : zp (zb_M_doStep_335 N σ v1 v2 s0) (fun r => FU σ0 r) := by
  unfold zb_M_doStep_335
  refine zp_bind fun r76 _ => ?_
  refine zp_chk fun _ => ?_
  refine zp_chk fun _ => ?_
  exact xu_b_M_doStep_618  (FU.up (by decide) hs)
theorem xu_b_M_doStep_139 {σ0 : zS} {N : Nat} {σ : zS} {v1 : Int32} {v2 : Int32} {v3 : Int32} {s0 : Int32}  (hs : FU σ0 σ) : zp (zb_M_doStep_139 N σ v1 v2 v3 s0) (fun r => FU σ0 r) := by
  unfold zb_M_doStep_139
  refine zp_chk fun _ => ?_
  refine zp_ite (fun _ => ?_) fun _ => ?_
  ·
    refine zp_bind fun r86 _ => ?_
    refine zp_chk fun _ => ?_
    refine zp_chk fun _ => ?_
    refine zp_chk fun _ => ?_
    exact xu_b_M_doStep_618  (FU.up (by decide) hs)
  ·
    refine zp_ite (fun _ => ?_) fun _ => ?_
    ·
      refine zp_chk fun _ => ?_
      refine zp_bind fun r84 _ => ?_
      refine zp_chk fun _ => ?_
      exact xu_b_M_doStep_618  (FU.up (by decide) hs)
    ·
      refine zp_ite (fun _ => ?_) fun _ => ?_
      ·
        refine zp_chk fun _ => ?_
        refine zp_bind fun r71 _ => ?_
        refine zp_chk fun _ => ?_
        refine zp_ite (fun _ => ?_) fun _ => ?_
        ·
          refine zp_chk fun _ => ?_
          refine zp_ite (fun _ => ?_) fun _ => ?_
          ·
            exact xu_b_M_doStep_335  hs
          ·
            refine zp_chk fun _ => ?_
            refine zp_bind fun r80 _ => ?_
            exact xu_b_M_doStep_335  hs
        ·
          refine zp_chk fun _ => ?_
          refine zp_bind fun r82 _ => ?_
          exact xu_b_M_doStep_335  hs
      ·
        refine zp_ite (fun _ => ?_) fun _ => ?_
        ·
          refine zp_chk fun _ => ?_
          refine zp_chk fun _ => ?_
          refine zp_chk fun _ => ?_
          exact xu_b_M_doStep_618  (FU.up (by decide) (FU.up (by decide) hs))
        ·
          refine zp_ite (fun _ => ?_) fun _ => ?_
          ·
            refine zp_chk fun _ => ?_
            refine zp_chk fun _ => ?_
            refine zp_chk fun _ => ?_
            refine zp_ite (fun _ => ?_) fun _ => ?_
            ·
              exact xu_b_M_doStep_432  (FU.up (by decide) hs)
            ·
              exact xu_b_M_doStep_432  (FU.up (by decide) hs)
          ·
            refine zp_ite (fun _ => ?_) fun _ => ?_
            ·
              refine zp_bind fun r58 _ => ?_
              refine zp_ite (fun _ => ?_) fun _ => ?_
              ·
                refine zp_chk fun _ => ?_
                exact xu_b_M_doStep_462  hs
              ·
                refine zp_chk fun _ => ?_
                exact xu_b_M_doStep_462  hs
            ·
              refine zp_ite (fun _ => ?_) fun _ => ?_
              ·
                refine zp_bind fun r53 _ => ?_
                refine zp_ite (fun _ => ?_) fun _ => ?_
                ·
                  refine zp_chk fun _ => ?_
                  exact xu_b_M_doStep_462  hs
                ·
                  refine zp_chk fun _ => ?_
                  exact xu_b_M_doStep_462  hs
              ·
                refine zp_ite (fun _ => ?_) fun _ => ?_
                ·
                  refine zp_ite (fun _ => ?_) fun _ => ?_
                  ·
                    refine zp_bind (zp_mono (xu_f_M_failing  hs) fun r45 hr45 => ?_)
                    exact zp_some hr45
                  ·
                    refine zp_bind fun r46 _ => ?_
                    refine zp_chk fun _ => ?_
                    refine zp_chk fun _ => ?_
                    refine zp_chk fun _ => ?_
                    refine zp_chk fun _ => ?_
                    refine zp_bind fun r51 _ => ?_
                    refine zp_chk fun _ => ?_
                    exact zp_some (FU.up (by decide) (FU.up (by decide) (FU.up (by decide) (FU.up (by decide) hs))))
                ·
                  refine zp_ite (fun _ => ?_) fun _ => ?_
                  ·
                    refine zp_ite (fun _ => ?_) fun _ => ?_
                    ·
                      refine zp_chk fun _ => ?_
                      refine zp_ite (fun _ => ?_) fun _ => ?_
                      ·
                        exact xu_b_M_doStep_563  hs
                      ·
                        exact xu_b_M_doStep_563  hs
                    ·
                      refine zp_bind (zp_mono (xu_f_M_failing  hs) fun r43 hr43 => ?_)
                      exact zp_some hr43
                  ·
                    refine zp_ite (fun _ => ?_) fun _ => ?_
                    ·
                      refine zp_ite (fun _ => ?_) fun _ => ?_
                      ·
                        refine zp_chk fun _ => ?_
                        refine zp_ite (fun _ => ?_) fun _ => ?_
                        ·
                          exact xu_b_M_doStep_563  hs
                        ·
                          exact xu_b_M_doStep_563  hs
                      ·
                        refine zp_bind (zp_mono (xu_f_M_failing  hs) fun r39 hr39 => ?_)
                        exact zp_some hr39
                    ·
                      refine zp_ite (fun _ => ?_) fun _ => ?_
                      ·
                        refine zp_bind fun r31 _ => ?_
                        refine zp_ite (fun _ => ?_) fun _ => ?_
                        ·
                          refine zp_bind (zp_mono (xu_f_M_begin  hs) fun r33 hr33 => ?_)
                          exact xu_b_M_doStep_618  hr33
                        ·
                          refine zp_bind (zp_mono (xu_f_M_failing  hs) fun r34 hr34 => ?_)
                          exact zp_some hr34
                      ·
                        refine zp_ite (fun _ => ?_) fun _ => ?_
                        ·
                          exact xu_b_M_doStep_618  hs
                        ·
                          refine zp_ite (fun _ => ?_) fun _ => ?_
                          ·
                            refine zp_bind fun r28 _ => ?_
                            refine zp_ite (fun _ => ?_) fun _ => ?_
                            ·
                              exact xu_b_M_doStep_618  hs
                            ·
                              refine zp_bind (zp_mono (xu_f_M_failing  hs) fun r30 hr30 => ?_)
                              exact zp_some hr30
                          ·
                            refine zp_ite (fun _ => ?_) fun _ => ?_
                            ·
                              refine zp_chk fun _ => ?_
                              refine zp_bind (zp_mono (xu_f_M_goTo  hs) fun r27 hr27 => ?_)
                              exact zp_some hr27
                            ·
                              exact xu_b_M_doStep_618  hs
theorem xu_b_M_doStep_138 {σ0 : zS} {N : Nat} {σ : zS} {v1 : Int32} {v2 : Int32} {v3 : Int32}  (hs : FU σ0 σ) : zp (zb_M_doStep_138 N σ v1 v2 v3) (fun r => FU σ0 r) := by
  unfold zb_M_doStep_138
  exact xu_b_M_doStep_139  hs
theorem xu_f_M_doStep {σ0 : zS} {N : Nat} {σ : zS} {x1 : Int32}  (hs : FU σ0 σ) : zp (zf_M_doStep N σ x1) (fun r => FU σ0 r) := by
  unfold zf_M_doStep
  refine zp_bind fun r1 _ => ?_
  refine zp_chk fun _ => ?_
  refine zp_chk fun _ => ?_
  refine zp_bind fun r4 _ => ?_
  refine zp_ite (fun _ => ?_) fun _ => ?_
  ·
    refine zp_chk fun _ => ?_
    refine zp_bind fun r7 _ => ?_
    refine zp_ite (fun _ => ?_) fun _ => ?_
    ·
      exact xu_b_M_doStep_138  hs
    ·
      refine zp_chk fun _ => ?_
      refine zp_ite (fun _ => ?_) fun _ => ?_
      ·
        exact xu_b_M_doStep_138  hs
      ·
        exact xu_b_M_doStep_139  hs
  ·
    refine zp_chk fun _ => ?_
    refine zp_bind fun r93 _ => ?_
    refine zp_chk fun _ => ?_
    refine zp_chk fun _ => ?_
    refine zp_bind fun r96 _ => ?_
    refine zp_chk fun _ => ?_
    refine zp_bind fun r98 _ => ?_
    refine zp_chk fun _ => ?_
    refine zp_chk fun _ => ?_
    refine zp_bind (zp_mono (xu_f_M_goTo  (FU.up (by decide) (FU.up (by decide) (FU.up (by decide) (FU.up (by decide) hs))))) fun r101 hr101 => ?_)
    exact zp_some hr101
theorem xu_f_M_found {σ0 : zS} {N : Nat} {σ : zS} {x1 : Int32}  (hs : FU σ0 σ) : zp (zf_M_found N σ x1) (fun r => FU σ0 r.2) := by
  unfold zf_M_found
  refine zp_ite (fun _ => ?_) fun _ => ?_
  ·
    refine zp_ite (fun _ => ?_) fun _ => ?_
    ·
      refine zp_bind fun r10 _ => ?_
      exact zp_some (FU.u8 (by decide) hs)
    ·
      refine zp_ite (fun _ => ?_) fun _ => ?_
      ·
        refine zp_bind fun r9 _ => ?_
        exact zp_some (FU.u8 (by decide) hs)
      ·
        refine zp_ite (fun _ => ?_) fun _ => ?_
        ·
          refine zp_bind fun r8 _ => ?_
          exact zp_some (FU.u8 (by decide) hs)
        ·
          refine zp_ite (fun _ => ?_) fun _ => ?_
          ·
            exact zp_some (FU.u8 (by decide) hs)
          ·
            refine zp_ite (fun _ => ?_) fun _ => ?_
            ·
              refine zp_bind fun r7 _ => ?_
              exact zp_some (FU.u8 (by decide) hs)
            ·
              exact zp_some (FU.u8 (by decide) hs)
  ·
    exact zp_some (FU.u8 (by decide) hs)
theorem xu_f_M_length {σ0 : zS} {σ : zS}  (hs : FU σ0 σ) : zp (zf_M_length σ) (fun r => FU σ0 r.2) := by
  unfold zf_M_length
  refine zp_ite (fun _ => ?_) fun _ => ?_
  ·
    exact zp_some (FU.u8 (by decide) hs)
  ·
    refine zp_ite (fun _ => ?_) fun _ => ?_
    ·
      exact zp_some (FU.u8 (by decide) hs)
    ·
      exact zp_some (FU.u8 (by decide) hs)
theorem xu_f_M_who {σ0 : zS} {σ : zS} {x1 : Int32}  (hs : FU σ0 σ) : zp (zf_M_who σ x1) (fun r => FU σ0 r.2) := by
  unfold zf_M_who
  refine zp_ite (fun _ => ?_) fun _ => ?_
  ·
    exact zp_some (FU.u8 (by decide) hs)
  ·
    refine zp_ite (fun _ => ?_) fun _ => ?_
    ·
      refine zp_bind fun r3 _ => ?_
      refine zp_ite (fun _ => ?_) fun _ => ?_
      ·
        exact zp_some (FU.u8 (by decide) hs)
      ·
        refine zp_chk fun _ => ?_
        exact zp_some (FU.u8 (by decide) hs)
    ·
      exact zp_some (FU.u8 (by decide) hs)
theorem xu_f_M_race {σ0 : zS} {N : Nat} {σ : zS} {x1 : Int32} {x2 : Int32}  (hs : FU σ0 σ) : zp (zf_M_race N σ x1 x2) (fun r => FU σ0 r.2) := by
  unfold zf_M_race
  refine zp_ite (fun _ => ?_) fun _ => ?_
  ·
    refine zp_bind fun r2 _ => ?_
    refine zp_ite (fun _ => ?_) fun _ => ?_
    ·
      refine zp_bind fun r4 _ => ?_
      exact zp_some (FU.u8 (by decide) hs)
    ·
      exact zp_some (FU.u8 (by decide) hs)
  ·
    exact zp_some (FU.u8 (by decide) hs)
theorem xu_f_M_thread {σ0 : zS} {N : Nat} {σ : zS} {x1 : Int32} {x2 : Int32} {x3 : Int32}  (hs : FU σ0 σ) : zp (zf_M_thread N σ x1 x2 x3) (fun r => FU σ0 r.2) := by
  unfold zf_M_thread
  refine zp_ite (fun _ => ?_) fun _ => ?_
  ·
    refine zp_bind fun r2 _ => ?_
    refine zp_ite (fun _ => ?_) fun _ => ?_
    ·
      exact zp_some (FU.u8 (by decide) hs)
    ·
      refine zp_bind fun r4 _ => ?_
      refine zp_ite (fun _ => ?_) fun _ => ?_
      ·
        exact zp_some (FU.u8 (by decide) hs)
      ·
        refine zp_bind fun r6 _ => ?_
        refine zp_ite (fun _ => ?_) fun _ => ?_
        ·
          refine zp_bind (zp_mono (xu_f_M_load  (FU.u8 (by decide) hs)) fun r8 hr8 => ?_)
          refine zp_ite (fun _ => ?_) fun _ => ?_
          ·
            refine zp_ite (fun _ => ?_) fun _ => ?_
            ·
              refine zp_ite (fun _ => ?_) fun _ => ?_
              ·
                refine zp_bind fun r12 _ => ?_
                refine zp_chk fun _ => ?_
                exact zp_some hr8
              ·
                refine zp_bind fun r14 _ => ?_
                refine zp_ite (fun _ => ?_) fun _ => ?_
                ·
                  exact zp_some hr8
                ·
                  exact zp_some hr8
            ·
              refine zp_bind fun r16 _ => ?_
              refine zp_chk fun _ => ?_
              exact zp_some hr8
          ·
            refine zp_bind fun r18 _ => ?_
            exact zp_some hr8
        ·
          exact zp_some (FU.u8 (by decide) hs)
  ·
    exact zp_some (FU.u8 (by decide) hs)
theorem xu_f_M_field {σ0 : zS} {σ : zS} {x1 : Int32} {x2 : Int32}  (hs : FU σ0 σ) : zp (zf_M_field σ x1 x2) (fun r => FU σ0 r.2) := by
  unfold zf_M_field
  refine zp_ite (fun _ => ?_) fun _ => ?_
  ·
    refine zp_bind fun r2 _ => ?_
    refine zp_ite (fun _ => ?_) fun _ => ?_
    ·
      exact zp_some (FU.u8 (by decide) hs)
    ·
      refine zp_bind fun r4 _ => ?_
      refine zp_ite (fun _ => ?_) fun _ => ?_
      ·
        exact zp_some (FU.u8 (by decide) hs)
      ·
        refine zp_chk fun _ => ?_
        exact zp_some (FU.u8 (by decide) hs)
  ·
    exact zp_some (FU.u8 (by decide) hs)
theorem xu_f_M_owner {σ0 : zS} {σ : zS} {x1 : Int32} {x2 : Int32}  (hs : FU σ0 σ) : zp (zf_M_owner σ x1 x2) (fun r => FU σ0 r.2) := by
  unfold zf_M_owner
  refine zp_ite (fun _ => ?_) fun _ => ?_
  ·
    refine zp_bind fun r2 _ => ?_
    refine zp_ite (fun _ => ?_) fun _ => ?_
    ·
      exact zp_some (FU.u8 (by decide) hs)
    ·
      refine zp_bind fun r4 _ => ?_
      refine zp_ite (fun _ => ?_) fun _ => ?_
      ·
        exact zp_some (FU.u8 (by decide) hs)
      ·
        refine zp_chk fun _ => ?_
        exact zp_some (FU.u8 (by decide) hs)
  ·
    exact zp_some (FU.u8 (by decide) hs)
theorem xu_b_M_stuck_135 {σ0 : zS} {k45 : zS → Int32 → Int32 → Option (Int32 × zS)} {N : Nat} {σ : zS} {v3 : Int32} {s0 : Int32} (hk45 : ∀ (y0 : zS) (y1 : Int32) (y2 : Int32), FU σ0 y0 → zp (k45 y0 y1 y2) (fun r => FU σ0 r.2)) (hs : FU σ0 σ) : zp (zb_M_stuck_135 k45 N σ v3 s0) (fun r => FU σ0 r.2) := by
  unfold zb_M_stuck_135
  exact hk45 _ _ _ hs
theorem xu_b_M_stuck_134 {σ0 : zS} {k45 : zS → Int32 → Int32 → Option (Int32 × zS)} {N : Nat} {σ : zS} {v3 : Int32} (hk45 : ∀ (y0 : zS) (y1 : Int32) (y2 : Int32), FU σ0 y0 → zp (k45 y0 y1 y2) (fun r => FU σ0 r.2)) (hs : FU σ0 σ) : zp (zb_M_stuck_134 k45 N σ v3) (fun r => FU σ0 r.2) := by
  unfold zb_M_stuck_134
  exact xu_b_M_stuck_135 (hk45) hs
theorem xu_b_M_stuck_130 {σ0 : zS} {k45 : zS → Int32 → Int32 → Option (Int32 × zS)} {N : Nat} {σ : zS} {v3 : Int32} (hk45 : ∀ (y0 : zS) (y1 : Int32) (y2 : Int32), FU σ0 y0 → zp (k45 y0 y1 y2) (fun r => FU σ0 r.2)) (hs : FU σ0 σ) : zp (zb_M_stuck_130 k45 N σ v3) (fun r => FU σ0 r.2) := by
  unfold zb_M_stuck_130
  exact xu_b_M_stuck_135 (hk45) hs
theorem xu_b_M_stuck_96 {σ0 : zS} {k45 : zS → Int32 → Int32 → Option (Int32 × zS)} {N : Nat} {σ : zS} {v2 : Int32} {v3 : Int32} (hk45 : ∀ (y0 : zS) (y1 : Int32) (y2 : Int32), FU σ0 y0 → zp (k45 y0 y1 y2) (fun r => FU σ0 r.2)) (hs : FU σ0 σ) : zp (zb_M_stuck_96 k45 N σ v2 v3) (fun r => FU σ0 r.2) := by
  unfold zb_M_stuck_96
  refine zp_bind fun r10 _ => ?_
  refine zp_ite (fun _ => ?_) fun _ => ?_
  ·
    exact xu_b_M_stuck_134 (hk45) hs
  ·
    refine zp_ite (fun _ => ?_) fun _ => ?_
    ·
      exact xu_b_M_stuck_130 (hk45) hs
    ·
      refine zp_ite (fun _ => ?_) fun _ => ?_
      ·
        exact xu_b_M_stuck_130 (hk45) hs
      ·
        refine zp_ite (fun _ => ?_) fun _ => ?_
        ·
          exact xu_b_M_stuck_130 (hk45) hs
        ·
          refine zp_ite (fun _ => ?_) fun _ => ?_
          ·
            exact xu_b_M_stuck_134 (hk45) hs
          ·
            exact xu_b_M_stuck_130 (hk45) hs
theorem xu_b_M_stuck_59 {σ0 : zS} {k45 : zS → Int32 → Int32 → Option (Int32 × zS)} {N : Nat} (hk45 : ∀ (y0 : zS) (y1 : Int32) (y2 : Int32), FU σ0 y0 → zp (k45 y0 y1 y2) (fun r => FU σ0 r.2)) : ∀ (n : Nat) (σ : zS) (v2 : Int32) (v3 : Int32) (v4 : Int32) (v5 : Int32), FU σ0 σ → zp (zb_M_stuck_59 k45 N n σ v2 v3 v4 v5) (fun r => FU σ0 r.2) := by
  intro n
  induction n with
  | zero => intro _ _ _ _ _ _; exact zp_none
  | succ n ih =>
    intro σ v2 v3 v4 v5 hs
    rw [zb_M_stuck_59]
    refine zp_ite (fun _ => ?_) fun _ => ?_
    ·
      exact xu_b_M_stuck_96 (hk45) hs
    ·
      refine zp_ite (fun _ => ?_) fun _ => ?_
      ·
        exact xu_b_M_stuck_96 (hk45) hs
      ·
        refine zp_bind fun r17 _ => ?_
        refine zp_ite (fun _ => ?_) fun _ => ?_
        ·
          exact ih _ _ _ _ _ hs
        ·
          exact zp_some hs
theorem xu_b_M_stuck_45 {σ0 : zS} {N : Nat}  : ∀ (n : Nat) (σ : zS) (v2 : Int32) (v3 : Int32), FU σ0 σ → zp (zb_M_stuck_45 N n σ v2 v3) (fun r => FU σ0 r.2) := by
  intro n
  induction n with
  | zero => intro _ _ _ _; exact zp_none
  | succ n ih =>
    intro σ v2 v3 hs
    rw [zb_M_stuck_45]
    refine zp_ite (fun _ => ?_) fun _ => ?_
    ·
      refine zp_ite (fun _ => ?_) fun _ => ?_
      ·
        exact zp_some hs
      ·
        exact zp_some hs
    ·
      exact xu_b_M_stuck_59 (ih) _ _ _ _ _ _ hs
theorem xu_f_M_stuck {σ0 : zS} {N : Nat} {σ : zS} {x1 : Int32}  (hs : FU σ0 σ) : zp (zf_M_stuck N σ x1) (fun r => FU σ0 r.2) := by
  unfold zf_M_stuck
  refine zp_ite (fun _ => ?_) fun _ => ?_
  ·
    refine zp_bind fun r2 _ => ?_
    refine zp_ite (fun _ => ?_) fun _ => ?_
    ·
      exact zp_some (FU.u8 (by decide) hs)
    ·
      refine zp_chk fun _ => ?_
      refine zp_ite (fun _ => ?_) fun _ => ?_
      ·
        refine zp_bind (zp_mono (xu_f_M_load  (FU.u8 (by decide) hs)) fun r6 hr6 => ?_)
        exact xu_b_M_stuck_45  _ _ _ _ hr6
      ·
        exact zp_some (FU.u8 (by decide) hs)
  ·
    exact zp_some (FU.u8 (by decide) hs)
theorem xu_b_M_whole_472 {σ0 : zS} {N : Nat} {σ : zS} {v5 : Int32}  (hs : FU σ0 σ) : zp (zb_M_whole_472 N σ v5) (fun r => FU σ0 r.2) := by
  unfold zb_M_whole_472
  refine zp_ite (fun _ => ?_) fun _ => ?_
  ·
    exact zp_some hs
  ·
    exact zp_some hs
theorem xu_b_M_whole_454 {σ0 : zS} {k414 : zS → Int32 → Int32 → Int32 → Int32 → Option (Int32 × zS)} {N : Nat} {σ : zS} {v4 : Int32} {v6 : Int32} {v8 : Int32} {s0 : Int32} (hk414 : ∀ (y0 : zS) (y1 : Int32) (y2 : Int32) (y3 : Int32) (y4 : Int32), FU σ0 y0 → zp (k414 y0 y1 y2 y3 y4) (fun r => FU σ0 r.2)) (hs : FU σ0 σ) : zp (zb_M_whole_454 k414 N σ v4 v6 v8 s0) (fun r => FU σ0 r.2) := by
  unfold zb_M_whole_454
  exact hk414 _ _ _ _ _ hs
theorem xu_b_M_whole_449 {σ0 : zS} {k414 : zS → Int32 → Int32 → Int32 → Int32 → Option (Int32 × zS)} {N : Nat} {σ : zS} {v4 : Int32} {v6 : Int32} {v8 : Int32} (hk414 : ∀ (y0 : zS) (y1 : Int32) (y2 : Int32) (y3 : Int32) (y4 : Int32), FU σ0 y0 → zp (k414 y0 y1 y2 y3 y4) (fun r => FU σ0 r.2)) (hs : FU σ0 σ) : zp (zb_M_whole_449 k414 N σ v4 v6 v8) (fun r => FU σ0 r.2) := by
  unfold zb_M_whole_449
  exact xu_b_M_whole_454 (hk414) hs
theorem xu_b_M_whole_414 {σ0 : zS} {k396 : zS → Int32 → Int32 → Int32 → Option (Int32 × zS)} {N : Nat} (hk396 : ∀ (y0 : zS) (y1 : Int32) (y2 : Int32) (y3 : Int32), FU σ0 y0 → zp (k396 y0 y1 y2 y3) (fun r => FU σ0 r.2)) : ∀ (n : Nat) (σ : zS) (v4 : Int32) (v6 : Int32) (v7 : Int32) (v8 : Int32), FU σ0 σ → zp (zb_M_whole_414 k396 N n σ v4 v6 v7 v8) (fun r => FU σ0 r.2) := by
  intro n
  induction n with
  | zero => intro _ _ _ _ _ _; exact zp_none
  | succ n ih =>
    intro σ v4 v6 v7 v8 hs
    rw [zb_M_whole_414]
    refine zp_ite (fun _ => ?_) fun _ => ?_
    ·
      exact hk396 _ _ _ _ hs
    ·
      refine zp_ite (fun _ => ?_) fun _ => ?_
      ·
        exact xu_b_M_whole_449 (ih) hs
      ·
        refine zp_chk fun _ => ?_
        refine zp_chk fun _ => ?_
        refine zp_bind fun r17 _ => ?_
        refine zp_ite (fun _ => ?_) fun _ => ?_
        ·
          exact xu_b_M_whole_454 (ih) hs
        ·
          exact xu_b_M_whole_449 (ih) hs
theorem xu_b_M_whole_396 {σ0 : zS} {N : Nat}  : ∀ (n : Nat) (σ : zS) (v4 : Int32) (v5 : Int32) (v6 : Int32), FU σ0 σ → zp (zb_M_whole_396 N n σ v4 v5 v6) (fun r => FU σ0 r.2) := by
  intro n
  induction n with
  | zero => intro _ _ _ _ _; exact zp_none
  | succ n ih =>
    intro σ v4 v5 v6 hs
    rw [zb_M_whole_396]
    refine zp_ite (fun _ => ?_) fun _ => ?_
    ·
      exact xu_b_M_whole_472  hs
    ·
      refine zp_ite (fun _ => ?_) fun _ => ?_
      ·
        exact xu_b_M_whole_472  hs
      ·
        exact xu_b_M_whole_414 (ih) _ _ _ _ _ _ hs
theorem xu_b_M_whole_391 {σ0 : zS} {N : Nat} {σ : zS} {v4 : Int32} {s0 : Int32}  (hs : FU σ0 σ) : zp (zb_M_whole_391 N σ v4 s0) (fun r => FU σ0 r.2) := by
  unfold zb_M_whole_391
  exact xu_b_M_whole_396  _ _ _ _ _ hs
theorem xu_b_M_whole_371 {σ0 : zS} {k63 : zS → Int32 → Int32 → Int32 → Int32 → Option (Int32 × zS)} {N : Nat} {σ : zS} {v1 : Int32} {v2 : Int32} {v4 : Int32} {v5 : Int32} (hk63 : ∀ (y0 : zS) (y1 : Int32) (y2 : Int32) (y3 : Int32) (y4 : Int32), FU σ0 y0 → zp (k63 y0 y1 y2 y3 y4) (fun r => FU σ0 r.2)) (hs : FU σ0 σ) : zp (zb_M_whole_371 k63 N σ v1 v2 v4 v5) (fun r => FU σ0 r.2) := by
  unfold zb_M_whole_371
  exact hk63 _ _ _ _ _ hs
theorem xu_b_M_whole_354 {σ0 : zS} {k63 : zS → Int32 → Int32 → Int32 → Int32 → Option (Int32 × zS)} {N : Nat} {σ : zS} {v1 : Int32} {v2 : Int32} {v4 : Int32} {v5 : Int32} {v8 : Int32} (hk63 : ∀ (y0 : zS) (y1 : Int32) (y2 : Int32) (y3 : Int32) (y4 : Int32), FU σ0 y0 → zp (k63 y0 y1 y2 y3 y4) (fun r => FU σ0 r.2)) (hs : FU σ0 σ) : zp (zb_M_whole_354 k63 N σ v1 v2 v4 v5 v8) (fun r => FU σ0 r.2) := by
  unfold zb_M_whole_354
  refine zp_ite (fun _ => ?_) fun _ => ?_
  ·
    exact xu_b_M_whole_371 (hk63) hs
  ·
    refine zp_chk fun _ => ?_
    exact xu_b_M_whole_371 (hk63) (FU.up (by decide) hs)
theorem xu_b_M_whole_346 {σ0 : zS} {k313 : zS → Int32 → Int32 → Int32 → Int32 → Int32 → Int32 → Option (Int32 × zS)} {N : Nat} {σ : zS} {v1 : Int32} {v2 : Int32} {v4 : Int32} {v5 : Int32} {v9 : Int32} {s0 : Int32} (hk313 : ∀ (y0 : zS) (y1 : Int32) (y2 : Int32) (y3 : Int32) (y4 : Int32) (y5 : Int32) (y6 : Int32), FU σ0 y0 → zp (k313 y0 y1 y2 y3 y4 y5 y6) (fun r => FU σ0 r.2)) (hs : FU σ0 σ) : zp (zb_M_whole_346 k313 N σ v1 v2 v4 v5 v9 s0) (fun r => FU σ0 r.2) := by
  unfold zb_M_whole_346
  exact hk313 _ _ _ _ _ _ _ hs
theorem xu_b_M_whole_313 {σ0 : zS} {k63 : zS → Int32 → Int32 → Int32 → Int32 → Option (Int32 × zS)} {N : Nat} (hk63 : ∀ (y0 : zS) (y1 : Int32) (y2 : Int32) (y3 : Int32) (y4 : Int32), FU σ0 y0 → zp (k63 y0 y1 y2 y3 y4) (fun r => FU σ0 r.2)) : ∀ (n : Nat) (σ : zS) (v1 : Int32) (v2 : Int32) (v4 : Int32) (v5 : Int32) (v8 : Int32) (v9 : Int32), FU σ0 σ → zp (zb_M_whole_313 k63 N n σ v1 v2 v4 v5 v8 v9) (fun r => FU σ0 r.2) := by
  intro n
  induction n with
  | zero => intro _ _ _ _ _ _ _ _; exact zp_none
  | succ n ih =>
    intro σ v1 v2 v4 v5 v8 v9 hs
    rw [zb_M_whole_313]
    refine zp_ite (fun _ => ?_) fun _ => ?_
    ·
      exact xu_b_M_whole_354 (hk63) hs
    ·
      refine zp_ite (fun _ => ?_) fun _ => ?_
      ·
        exact xu_b_M_whole_354 (hk63) hs
      ·
        refine zp_chk fun _ => ?_
        refine zp_bind fun r28 _ => ?_
        refine zp_ite (fun _ => ?_) fun _ => ?_
        ·
          exact xu_b_M_whole_346 (ih) hs
        ·
          exact xu_b_M_whole_346 (ih) hs
theorem xu_b_M_whole_296 {σ0 : zS} {k147 : zS → Int32 → Int32 → Int32 → Int32 → Int32 → Int32 → Int32 → Option (Int32 × zS)} {N : Nat} {σ : zS} {v1 : Int32} {v2 : Int32} {v4 : Int32} {v5 : Int32} {v6 : Int32} {v7 : Int32} {v8 : Int32} (hk147 : ∀ (y0 : zS) (y1 : Int32) (y2 : Int32) (y3 : Int32) (y4 : Int32) (y5 : Int32) (y6 : Int32) (y7 : Int32), FU σ0 y0 → zp (k147 y0 y1 y2 y3 y4 y5 y6 y7) (fun r => FU σ0 r.2)) (hs : FU σ0 σ) : zp (zb_M_whole_296 k147 N σ v1 v2 v4 v5 v6 v7 v8) (fun r => FU σ0 r.2) := by
  unfold zb_M_whole_296
  exact hk147 _ _ _ _ _ _ _ _ hs
theorem xu_b_M_whole_284 {σ0 : zS} {k147 : zS → Int32 → Int32 → Int32 → Int32 → Int32 → Int32 → Int32 → Option (Int32 × zS)} {N : Nat} {σ : zS} {v1 : Int32} {v2 : Int32} {v4 : Int32} {v5 : Int32} {v6 : Int32} {v7 : Int32} {v8 : Int32} {s0 : Int32} {s1 : Int32} (hk147 : ∀ (y0 : zS) (y1 : Int32) (y2 : Int32) (y3 : Int32) (y4 : Int32) (y5 : Int32) (y6 : Int32) (y7 : Int32), FU σ0 y0 → zp (k147 y0 y1 y2 y3 y4 y5 y6 y7) (fun r => FU σ0 r.2)) (hs : FU σ0 σ) : zp (zb_M_whole_284 k147 N σ v1 v2 v4 v5 v6 v7 v8 s0 s1) (fun r => FU σ0 r.2) := by
  unfold zb_M_whole_284
  refine zp_chk fun _ => ?_
  refine zp_bind (zp_mono (xu_f_M_put  (FU.up (by decide) hs)) fun r42 hr42 => ?_)
  refine zp_ite (fun _ => ?_) fun _ => ?_
  ·
    exact xu_b_M_whole_296 (hk147) hr42
  ·
    exact zp_some hr42
theorem xu_b_M_whole_273 {σ0 : zS} {k147 : zS → Int32 → Int32 → Int32 → Int32 → Int32 → Int32 → Int32 → Option (Int32 × zS)} {N : Nat} {σ : zS} {v1 : Int32} {v2 : Int32} {v4 : Int32} {v5 : Int32} {v6 : Int32} {v7 : Int32} {v8 : Int32} {s0 : Int32} (hk147 : ∀ (y0 : zS) (y1 : Int32) (y2 : Int32) (y3 : Int32) (y4 : Int32) (y5 : Int32) (y6 : Int32) (y7 : Int32), FU σ0 y0 → zp (k147 y0 y1 y2 y3 y4 y5 y6 y7) (fun r => FU σ0 r.2)) (hs : FU σ0 σ) : zp (zb_M_whole_273 k147 N σ v1 v2 v4 v5 v6 v7 v8 s0) (fun r => FU σ0 r.2) := by
  unfold zb_M_whole_273
  exact xu_b_M_whole_284 (hk147) hs
theorem xu_b_M_whole_248 {σ0 : zS} {k147 : zS → Int32 → Int32 → Int32 → Int32 → Int32 → Int32 → Int32 → Option (Int32 × zS)} {N : Nat} {σ : zS} {v1 : Int32} {v2 : Int32} {v4 : Int32} {v5 : Int32} {v6 : Int32} {v7 : Int32} {v8 : Int32} {s0 : Int32} {s1 : Int32} (hk147 : ∀ (y0 : zS) (y1 : Int32) (y2 : Int32) (y3 : Int32) (y4 : Int32) (y5 : Int32) (y6 : Int32) (y7 : Int32), FU σ0 y0 → zp (k147 y0 y1 y2 y3 y4 y5 y6 y7) (fun r => FU σ0 r.2)) (hs : FU σ0 σ) : zp (zb_M_whole_248 k147 N σ v1 v2 v4 v5 v6 v7 v8 s0 s1) (fun r => FU σ0 r.2) := by
  unfold zb_M_whole_248
  refine zp_chk fun _ => ?_
  refine zp_bind fun r39 _ => ?_
  refine zp_ite (fun _ => ?_) fun _ => ?_
  ·
    exact xu_b_M_whole_273 (hk147) (FU.up (by decide) hs)
  ·
    refine zp_bind fun r44 _ => ?_
    refine zp_ite (fun _ => ?_) fun _ => ?_
    ·
      exact xu_b_M_whole_284 (hk147) (FU.up (by decide) hs)
    ·
      exact xu_b_M_whole_273 (hk147) (FU.up (by decide) hs)
theorem xu_b_M_whole_182 {σ0 : zS} {k147 : zS → Int32 → Int32 → Int32 → Int32 → Int32 → Int32 → Int32 → Option (Int32 × zS)} {N : Nat} {σ : zS} {v1 : Int32} {v2 : Int32} {v4 : Int32} {v5 : Int32} {v6 : Int32} {v8 : Int32} (hk147 : ∀ (y0 : zS) (y1 : Int32) (y2 : Int32) (y3 : Int32) (y4 : Int32) (y5 : Int32) (y6 : Int32) (y7 : Int32), FU σ0 y0 → zp (k147 y0 y1 y2 y3 y4 y5 y6 y7) (fun r => FU σ0 r.2)) (hs : FU σ0 σ) : zp (zb_M_whole_182 k147 N σ v1 v2 v4 v5 v6 v8) (fun r => FU σ0 r.2) := by
  unfold zb_M_whole_182
  refine zp_bind fun r34 _ => ?_
  refine zp_chk fun _ => ?_
  refine zp_bind (zp_mono (xu_f_M_doStep  hs) fun r36 hr36 => ?_)
  refine zp_ite (fun _ => ?_) fun _ => ?_
  ·
    exact xu_b_M_whole_248 (hk147) hr36
  ·
    refine zp_chk fun _ => ?_
    refine zp_ite (fun _ => ?_) fun _ => ?_
    ·
      exact xu_b_M_whole_248 (hk147) hr36
    ·
      exact xu_b_M_whole_248 (hk147) hr36
theorem xu_b_M_whole_147 {σ0 : zS} {k63 : zS → Int32 → Int32 → Int32 → Int32 → Option (Int32 × zS)} {N : Nat} (hk63 : ∀ (y0 : zS) (y1 : Int32) (y2 : Int32) (y3 : Int32) (y4 : Int32), FU σ0 y0 → zp (k63 y0 y1 y2 y3 y4) (fun r => FU σ0 r.2)) : ∀ (n : Nat) (σ : zS) (v1 : Int32) (v2 : Int32) (v4 : Int32) (v5 : Int32) (v6 : Int32) (v7 : Int32) (v8 : Int32), FU σ0 σ → zp (zb_M_whole_147 k63 N n σ v1 v2 v4 v5 v6 v7 v8) (fun r => FU σ0 r.2) := by
  intro n
  induction n with
  | zero => intro _ _ _ _ _ _ _ _ _; exact zp_none
  | succ n ih =>
    intro σ v1 v2 v4 v5 v6 v7 v8 hs
    rw [zb_M_whole_147]
    refine zp_ite (fun _ => ?_) fun _ => ?_
    ·
      refine zp_ite (fun _ => ?_) fun _ => ?_
      ·
        exact xu_b_M_whole_371 (hk63) hs
      ·
        exact xu_b_M_whole_313 (hk63) _ _ _ _ _ _ _ _ hs
    ·
      refine zp_bind (zp_mono (xu_f_M_load  hs) fun r30 hr30 => ?_)
      refine zp_bind fun r31 _ => ?_
      refine zp_ite (fun _ => ?_) fun _ => ?_
      ·
        exact xu_b_M_whole_296 (ih) hr30
      ·
        refine zp_ite (fun _ => ?_) fun _ => ?_
        ·
          exact xu_b_M_whole_182 (ih) hr30
        ·
          refine zp_ite (fun _ => ?_) fun _ => ?_
          ·
            exact xu_b_M_whole_296 (ih) hr30
          ·
            exact xu_b_M_whole_182 (ih) hr30
theorem xu_b_M_whole_139 {σ0 : zS} {k63 : zS → Int32 → Int32 → Int32 → Int32 → Option (Int32 × zS)} {N : Nat} {σ : zS} {v1 : Int32} {v2 : Int32} {v4 : Int32} {v5 : Int32} {s0 : Int32} (hk63 : ∀ (y0 : zS) (y1 : Int32) (y2 : Int32) (y3 : Int32) (y4 : Int32), FU σ0 y0 → zp (k63 y0 y1 y2 y3 y4) (fun r => FU σ0 r.2)) (hs : FU σ0 σ) : zp (zb_M_whole_139 k63 N σ v1 v2 v4 v5 s0) (fun r => FU σ0 r.2) := by
  unfold zb_M_whole_139
  exact xu_b_M_whole_147 (hk63) _ _ _ _ _ _ _ _ _ hs
theorem xu_b_M_whole_138 {σ0 : zS} {k63 : zS → Int32 → Int32 → Int32 → Int32 → Option (Int32 × zS)} {N : Nat} {σ : zS} {v1 : Int32} {v2 : Int32} {v4 : Int32} {v5 : Int32} (hk63 : ∀ (y0 : zS) (y1 : Int32) (y2 : Int32) (y3 : Int32) (y4 : Int32), FU σ0 y0 → zp (k63 y0 y1 y2 y3 y4) (fun r => FU σ0 r.2)) (hs : FU σ0 σ) : zp (zb_M_whole_138 k63 N σ v1 v2 v4 v5) (fun r => FU σ0 r.2) := by
  unfold zb_M_whole_138
  exact xu_b_M_whole_139 (hk63) hs
theorem xu_b_M_whole_63 {σ0 : zS} {N : Nat}  : ∀ (n : Nat) (σ : zS) (v1 : Int32) (v2 : Int32) (v4 : Int32) (v5 : Int32), FU σ0 σ → zp (zb_M_whole_63 N n σ v1 v2 v4 v5) (fun r => FU σ0 r.2) := by
  intro n
  induction n with
  | zero => intro _ _ _ _ _ _; exact zp_none
  | succ n ih =>
    intro σ v1 v2 v4 v5 hs
    rw [zb_M_whole_63]
    refine zp_ite (fun _ => ?_) fun _ => ?_
    ·
      refine zp_ite (fun _ => ?_) fun _ => ?_
      ·
        exact xu_b_M_whole_391  hs
      ·
        exact xu_b_M_whole_391  hs
    ·
      refine zp_bind (zp_mono (xu_f_M_load  hs) fun r19 hr19 => ?_)
      refine zp_ite (fun _ => ?_) fun _ => ?_
      ·
        exact xu_b_M_whole_138 (ih) hr19
      ·
        refine zp_bind fun r49 _ => ?_
        refine zp_ite (fun _ => ?_) fun _ => ?_
        ·
          exact xu_b_M_whole_138 (ih) hr19
        ·
          refine zp_bind fun r51 _ => ?_
          refine zp_chk fun _ => ?_
          refine zp_chk fun _ => ?_
          refine zp_ite (fun _ => ?_) fun _ => ?_
          ·
            exact xu_b_M_whole_138 (ih) hr19
          ·
            refine zp_bind fun r55 _ => ?_
            refine zp_ite (fun _ => ?_) fun _ => ?_
            ·
              exact xu_b_M_whole_138 (ih) hr19
            ·
              exact xu_b_M_whole_139 (ih) hr19
theorem xu_f_M_whole {σ0 : zS} {N : Nat} {σ : zS} {x1 : Int32}  (hs : FU σ0 σ) : zp (zf_M_whole N σ x1) (fun r => FU σ0 r.2) := by
  unfold zf_M_whole
  refine zp_ite (fun _ => ?_) fun _ => ?_
  ·
    refine zp_bind fun r2 _ => ?_
    refine zp_ite (fun _ => ?_) fun _ => ?_
    ·
      refine zp_chk fun _ => ?_
      refine zp_bind (zp_mono (xu_f_M_forget  (FU.u8 (by decide) hs)) fun r5 hr5 => ?_)
      refine zp_bind (zp_mono (xu_f_M_firstState  hr5) fun r6 hr6 => ?_)
      refine zp_bind (zp_mono (xu_f_M_put  hr6) fun r7 hr7 => ?_)
      exact xu_b_M_whole_63  _ _ _ _ _ _ hr7
    ·
      exact zp_some (FU.u8 (by decide) hs)
  ·
    exact zp_some (FU.u8 (by decide) hs)
theorem xu_f_M_doubts {σ0 : zS} {N : Nat} {σ : zS}  (hs : FU σ0 σ) : zp (zf_M_doubts N σ) (fun r => FU σ0 r.2) := by
  unfold zf_M_doubts
  refine zp_ite (fun _ => ?_) fun _ => ?_
  ·
    exact zp_some (FU.u8 (by decide) hs)
  ·
    refine zp_bind fun r2 _ => ?_
    exact zp_some (FU.u8 (by decide) hs)
theorem xu_f_M_doubt {σ0 : zS} {N : Nat} {σ : zS} {x1 : Int32} {x2 : Int32}  (hs : FU σ0 σ) : zp (zf_M_doubt N σ x1 x2) (fun r => FU σ0 r.2) := by
  unfold zf_M_doubt
  refine zp_ite (fun _ => ?_) fun _ => ?_
  ·
    refine zp_bind fun r2 _ => ?_
    refine zp_ite (fun _ => ?_) fun _ => ?_
    ·
      refine zp_bind fun r4 _ => ?_
      exact zp_some (FU.u8 (by decide) hs)
    ·
      exact zp_some (FU.u8 (by decide) hs)
  ·
    exact zp_some (FU.u8 (by decide) hs)
theorem xu_f_M_meet {σ0 : zS} {N : Nat} {σ : zS} {x1 : Int32} {x2 : Int32} {x3 : Int32} {x4 : Int32}  (hs : FU σ0 σ) : zp (zf_M_meet N σ x1 x2 x3 x4) (fun r => FU σ0 r.2) := by
  unfold zf_M_meet
  refine zp_ite (fun _ => ?_) fun _ => ?_
  ·
    refine zp_bind fun r2 _ => ?_
    refine zp_ite (fun _ => ?_) fun _ => ?_
    ·
      exact zp_some (FU.u8 (by decide) hs)
    ·
      refine zp_bind fun r4 _ => ?_
      refine zp_ite (fun _ => ?_) fun _ => ?_
      ·
        exact zp_some (FU.u8 (by decide) hs)
      ·
        refine zp_ite (fun _ => ?_) fun _ => ?_
        ·
          refine zp_bind fun r7 _ => ?_
          refine zp_ite (fun _ => ?_) fun _ => ?_
          ·
            exact zp_some (FU.u8 (by decide) hs)
          ·
            exact zp_some (FU.u8 (by decide) hs)
        ·
          exact zp_some (FU.u8 (by decide) hs)
  ·
    exact zp_some (FU.u8 (by decide) hs)
theorem xu_b_M_guards_97 {σ0 : zS} {k43 : zS → Int32 → Int32 → Int32 → Option (Int32 × zS)} {N : Nat} {σ : zS} {v1 : Int32} {v2 : Int32} {v3 : Int32} (hk43 : ∀ (y0 : zS) (y1 : Int32) (y2 : Int32) (y3 : Int32), FU σ0 y0 → zp (k43 y0 y1 y2 y3) (fun r => FU σ0 r.2)) (hs : FU σ0 σ) : zp (zb_M_guards_97 k43 N σ v1 v2 v3) (fun r => FU σ0 r.2) := by
  unfold zb_M_guards_97
  exact hk43 _ _ _ _ hs
theorem xu_b_M_guards_43 {σ0 : zS} {N : Nat}  : ∀ (n : Nat) (σ : zS) (v1 : Int32) (v2 : Int32) (v3 : Int32), FU σ0 σ → zp (zb_M_guards_43 N n σ v1 v2 v3) (fun r => FU σ0 r.2) := by
  intro n
  induction n with
  | zero => intro _ _ _ _ _; exact zp_none
  | succ n ih =>
    intro σ v1 v2 v3 hs
    rw [zb_M_guards_43]
    refine zp_ite (fun _ => ?_) fun _ => ?_
    ·
      exact zp_some hs
    ·
      refine zp_chk fun _ => ?_
      refine zp_ite (fun _ => ?_) fun _ => ?_
      ·
        exact xu_b_M_guards_97 (ih) hs
      ·
        refine zp_bind fun r7 _ => ?_
        refine zp_ite (fun _ => ?_) fun _ => ?_
        ·
          exact xu_b_M_guards_97 (ih) hs
        ·
          refine zp_chk fun _ => ?_
          refine zp_ite (fun _ => ?_) fun _ => ?_
          ·
            exact xu_b_M_guards_97 (ih) hs
          ·
            refine zp_chk fun _ => ?_
            exact xu_b_M_guards_97 (ih) hs
theorem xu_f_M_guards {σ0 : zS} {N : Nat} {σ : zS} {x1 : Int32}  (hs : FU σ0 σ) : zp (zf_M_guards N σ x1) (fun r => FU σ0 r.2) := by
  unfold zf_M_guards
  refine zp_ite (fun _ => ?_) fun _ => ?_
  ·
    refine zp_bind fun r2 _ => ?_
    refine zp_ite (fun _ => ?_) fun _ => ?_
    ·
      exact xu_b_M_guards_43  _ _ _ _ _ (FU.u8 (by decide) hs)
    ·
      exact zp_some (FU.u8 (by decide) hs)
  ·
    exact zp_some (FU.u8 (by decide) hs)
theorem xu_b_M_rings_286 {σ0 : zS} {k27 : zS → Int32 → Int32 → Int32 → Option (Int32 × zS)} {N : Nat} {σ : zS} {v1 : Int32} {v2 : Int32} {v3 : Int32} (hk27 : ∀ (y0 : zS) (y1 : Int32) (y2 : Int32) (y3 : Int32), FU σ0 y0 → zp (k27 y0 y1 y2 y3) (fun r => FU σ0 r.2)) (hs : FU σ0 σ) : zp (zb_M_rings_286 k27 N σ v1 v2 v3) (fun r => FU σ0 r.2) := by
  unfold zb_M_rings_286
  exact hk27 _ _ _ _ hs
theorem xu_b_M_rings_280 {σ0 : zS} {k43 : zS → Int32 → Int32 → Int32 → Int32 → Option (Int32 × zS)} {N : Nat} {σ : zS} {v1 : Int32} {v2 : Int32} {v3 : Int32} {v4 : Int32} (hk43 : ∀ (y0 : zS) (y1 : Int32) (y2 : Int32) (y3 : Int32) (y4 : Int32), FU σ0 y0 → zp (k43 y0 y1 y2 y3 y4) (fun r => FU σ0 r.2)) (hs : FU σ0 σ) : zp (zb_M_rings_280 k43 N σ v1 v2 v3 v4) (fun r => FU σ0 r.2) := by
  unfold zb_M_rings_280
  exact hk43 _ _ _ _ _ hs
theorem xu_b_M_rings_274 {σ0 : zS} {k118 : zS → Int32 → Int32 → Int32 → Int32 → Int32 → Option (Int32 × zS)} {N : Nat} {σ : zS} {v1 : Int32} {v2 : Int32} {v3 : Int32} {v4 : Int32} {v5 : Int32} (hk118 : ∀ (y0 : zS) (y1 : Int32) (y2 : Int32) (y3 : Int32) (y4 : Int32) (y5 : Int32), FU σ0 y0 → zp (k118 y0 y1 y2 y3 y4 y5) (fun r => FU σ0 r.2)) (hs : FU σ0 σ) : zp (zb_M_rings_274 k118 N σ v1 v2 v3 v4 v5) (fun r => FU σ0 r.2) := by
  unfold zb_M_rings_274
  exact hk118 _ _ _ _ _ _ hs
theorem xu_b_M_rings_268 {σ0 : zS} {k197 : zS → Int32 → Int32 → Int32 → Int32 → Int32 → Int32 → Option (Int32 × zS)} {N : Nat} {σ : zS} {v1 : Int32} {v2 : Int32} {v3 : Int32} {v4 : Int32} {v5 : Int32} {v6 : Int32} (hk197 : ∀ (y0 : zS) (y1 : Int32) (y2 : Int32) (y3 : Int32) (y4 : Int32) (y5 : Int32) (y6 : Int32), FU σ0 y0 → zp (k197 y0 y1 y2 y3 y4 y5 y6) (fun r => FU σ0 r.2)) (hs : FU σ0 σ) : zp (zb_M_rings_268 k197 N σ v1 v2 v3 v4 v5 v6) (fun r => FU σ0 r.2) := by
  unfold zb_M_rings_268
  exact hk197 _ _ _ _ _ _ _ hs
theorem xu_b_M_rings_197 {σ0 : zS} {k118 : zS → Int32 → Int32 → Int32 → Int32 → Int32 → Option (Int32 × zS)} {N : Nat} (hk118 : ∀ (y0 : zS) (y1 : Int32) (y2 : Int32) (y3 : Int32) (y4 : Int32) (y5 : Int32), FU σ0 y0 → zp (k118 y0 y1 y2 y3 y4 y5) (fun r => FU σ0 r.2)) : ∀ (n : Nat) (σ : zS) (v1 : Int32) (v2 : Int32) (v3 : Int32) (v4 : Int32) (v5 : Int32) (v6 : Int32), FU σ0 σ → zp (zb_M_rings_197 k118 N n σ v1 v2 v3 v4 v5 v6) (fun r => FU σ0 r.2) := by
  intro n
  induction n with
  | zero => intro _ _ _ _ _ _ _ _; exact zp_none
  | succ n ih =>
    intro σ v1 v2 v3 v4 v5 v6 hs
    rw [zb_M_rings_197]
    refine zp_ite (fun _ => ?_) fun _ => ?_
    ·
      exact xu_b_M_rings_274 (hk118) hs
    ·
      refine zp_bind fun r26 _ => ?_
      refine zp_ite (fun _ => ?_) fun _ => ?_
      ·
        exact xu_b_M_rings_268 (ih) hs
      ·
        refine zp_bind fun r28 _ => ?_
        refine zp_ite (fun _ => ?_) fun _ => ?_
        ·
          exact xu_b_M_rings_268 (ih) hs
        ·
          refine zp_bind fun r30 _ => ?_
          refine zp_ite (fun _ => ?_) fun _ => ?_
          ·
            exact xu_b_M_rings_268 (ih) hs
          ·
            refine zp_bind fun r32 _ => ?_
            refine zp_ite (fun _ => ?_) fun _ => ?_
            ·
              exact xu_b_M_rings_268 (ih) hs
            ·
              refine zp_bind fun r34 _ => ?_
              refine zp_ite (fun _ => ?_) fun _ => ?_
              ·
                exact xu_b_M_rings_268 (ih) hs
              ·
                refine zp_bind fun r36 _ => ?_
                refine zp_ite (fun _ => ?_) fun _ => ?_
                ·
                  exact xu_b_M_rings_268 (ih) hs
                ·
                  exact xu_b_M_rings_268 (ih) hs
theorem xu_b_M_rings_184 {σ0 : zS} {k118 : zS → Int32 → Int32 → Int32 → Int32 → Int32 → Option (Int32 × zS)} {N : Nat} {σ : zS} {v1 : Int32} {v3 : Int32} {v4 : Int32} {v5 : Int32} {s0 : Int32} {s1 : Int32} (hk118 : ∀ (y0 : zS) (y1 : Int32) (y2 : Int32) (y3 : Int32) (y4 : Int32) (y5 : Int32), FU σ0 y0 → zp (k118 y0 y1 y2 y3 y4 y5) (fun r => FU σ0 r.2)) (hs : FU σ0 σ) : zp (zb_M_rings_184 k118 N σ v1 v3 v4 v5 s0 s1) (fun r => FU σ0 r.2) := by
  unfold zb_M_rings_184
  exact xu_b_M_rings_197 (hk118) _ _ _ _ _ _ _ _ hs
theorem xu_b_M_rings_118 {σ0 : zS} {k43 : zS → Int32 → Int32 → Int32 → Int32 → Option (Int32 × zS)} {N : Nat} (hk43 : ∀ (y0 : zS) (y1 : Int32) (y2 : Int32) (y3 : Int32) (y4 : Int32), FU σ0 y0 → zp (k43 y0 y1 y2 y3 y4) (fun r => FU σ0 r.2)) : ∀ (n : Nat) (σ : zS) (v1 : Int32) (v2 : Int32) (v3 : Int32) (v4 : Int32) (v5 : Int32), FU σ0 σ → zp (zb_M_rings_118 k43 N n σ v1 v2 v3 v4 v5) (fun r => FU σ0 r.2) := by
  intro n
  induction n with
  | zero => intro _ _ _ _ _ _ _; exact zp_none
  | succ n ih =>
    intro σ v1 v2 v3 v4 v5 hs
    rw [zb_M_rings_118]
    refine zp_ite (fun _ => ?_) fun _ => ?_
    ·
      exact xu_b_M_rings_280 (hk43) hs
    ·
      refine zp_bind fun r15 _ => ?_
      refine zp_ite (fun _ => ?_) fun _ => ?_
      ·
        exact xu_b_M_rings_274 (ih) hs
      ·
        refine zp_bind fun r17 _ => ?_
        refine zp_ite (fun _ => ?_) fun _ => ?_
        ·
          exact xu_b_M_rings_274 (ih) hs
        ·
          refine zp_bind fun r19 _ => ?_
          refine zp_ite (fun _ => ?_) fun _ => ?_
          ·
            exact xu_b_M_rings_274 (ih) hs
          ·
            refine zp_bind fun r21 _ => ?_
            refine zp_ite (fun _ => ?_) fun _ => ?_
            ·
              refine zp_bind fun r23 _ => ?_
              refine zp_ite (fun _ => ?_) fun _ => ?_
              ·
                exact xu_b_M_rings_184 (ih) hs
              ·
                exact xu_b_M_rings_184 (ih) hs
            ·
              exact xu_b_M_rings_274 (ih) hs
theorem xu_b_M_rings_105 {σ0 : zS} {k43 : zS → Int32 → Int32 → Int32 → Int32 → Option (Int32 × zS)} {N : Nat} {σ : zS} {v1 : Int32} {v3 : Int32} {v4 : Int32} {s0 : Int32} {s1 : Int32} (hk43 : ∀ (y0 : zS) (y1 : Int32) (y2 : Int32) (y3 : Int32) (y4 : Int32), FU σ0 y0 → zp (k43 y0 y1 y2 y3 y4) (fun r => FU σ0 r.2)) (hs : FU σ0 σ) : zp (zb_M_rings_105 k43 N σ v1 v3 v4 s0 s1) (fun r => FU σ0 r.2) := by
  unfold zb_M_rings_105
  exact xu_b_M_rings_118 (hk43) _ _ _ _ _ _ _ hs
theorem xu_b_M_rings_43 {σ0 : zS} {k27 : zS → Int32 → Int32 → Int32 → Option (Int32 × zS)} {N : Nat} (hk27 : ∀ (y0 : zS) (y1 : Int32) (y2 : Int32) (y3 : Int32), FU σ0 y0 → zp (k27 y0 y1 y2 y3) (fun r => FU σ0 r.2)) : ∀ (n : Nat) (σ : zS) (v1 : Int32) (v2 : Int32) (v3 : Int32) (v4 : Int32), FU σ0 σ → zp (zb_M_rings_43 k27 N n σ v1 v2 v3 v4) (fun r => FU σ0 r.2) := by
  intro n
  induction n with
  | zero => intro _ _ _ _ _ _; exact zp_none
  | succ n ih =>
    intro σ v1 v2 v3 v4 hs
    rw [zb_M_rings_43]
    refine zp_ite (fun _ => ?_) fun _ => ?_
    ·
      exact xu_b_M_rings_286 (hk27) hs
    ·
      refine zp_bind fun r4 _ => ?_
      refine zp_ite (fun _ => ?_) fun _ => ?_
      ·
        exact xu_b_M_rings_286 (hk27) hs
      ·
        refine zp_bind fun r6 _ => ?_
        refine zp_ite (fun _ => ?_) fun _ => ?_
        ·
          exact xu_b_M_rings_280 (ih) hs
        ·
          refine zp_bind fun r8 _ => ?_
          refine zp_ite (fun _ => ?_) fun _ => ?_
          ·
            exact xu_b_M_rings_280 (ih) hs
          ·
            refine zp_bind fun r10 _ => ?_
            refine zp_ite (fun _ => ?_) fun _ => ?_
            ·
              refine zp_bind fun r12 _ => ?_
              refine zp_ite (fun _ => ?_) fun _ => ?_
              ·
                exact xu_b_M_rings_105 (ih) hs
              ·
                exact xu_b_M_rings_105 (ih) hs
            ·
              exact xu_b_M_rings_280 (ih) hs
theorem xu_b_M_rings_27 {σ0 : zS} {N : Nat}  : ∀ (n : Nat) (σ : zS) (v1 : Int32) (v2 : Int32) (v3 : Int32), FU σ0 σ → zp (zb_M_rings_27 N n σ v1 v2 v3) (fun r => FU σ0 r.2) := by
  intro n
  induction n with
  | zero => intro _ _ _ _ _; exact zp_none
  | succ n ih =>
    intro σ v1 v2 v3 hs
    rw [zb_M_rings_27]
    refine zp_ite (fun _ => ?_) fun _ => ?_
    ·
      exact zp_some hs
    ·
      exact xu_b_M_rings_43 (ih) _ _ _ _ _ _ hs
theorem xu_f_M_rings {σ0 : zS} {N : Nat} {σ : zS}  (hs : FU σ0 σ) : zp (zf_M_rings N σ) (fun r => FU σ0 r.2) := by
  unfold zf_M_rings
  refine zp_ite (fun _ => ?_) fun _ => ?_
  ·
    exact xu_b_M_rings_27  _ _ _ _ _ (FU.u8 (by decide) hs)
  ·
    exact zp_some (FU.u8 (by decide) hs)
