-- both answer alike
set_option maxRecDepth 2000
def FE (σ0 σ : zS) : Prop := (∀ q, 41 ≤ q → q ≤ 63 → σ q = σ0 q) ∧ σ 2 14 = σ0 2 14 ∧ σ 2 15 = σ0 2 15
theorem FE.rfl' {σ : zS} : FE σ σ := ⟨fun _ _ _ => rfl, rfl, rfl⟩
theorem FE.up {σ0 σ : zS} {p i : Nat} {x : Int32} (hp : (p < 41 ∨ 63 < p) ∧ 2 ≠ p) (h : FE σ0 σ) : FE σ0 (zx_up σ p i x) := ⟨fun q a b => by rw [zu_other (by omega)]; exact h.1 q a b, by rw [zu_other hp.2]; exact h.2.1, by rw [zu_other hp.2]; exact h.2.2⟩
theorem FE.u2 {σ0 σ : zS} {i : Nat} {x : Int32} (hi : 14 ≠ i ∧ 15 ≠ i) (h : FE σ0 σ) : FE σ0 (zx_up σ 2 i x) := ⟨fun q a b => by rw [zu_other (by omega)]; exact h.1 q a b, by rw [zx_up_same, zu_ne hi.1]; exact h.2.1, by rw [zx_up_same, zu_ne hi.2]; exact h.2.2⟩
theorem FE.cp {σ0 σ : zS} {p q : Nat} {a b c : Int32} (hq : (q < 41 ∨ 63 < q) ∧ 2 ≠ q) (h : FE σ0 σ) : FE σ0 (zJ_copy σ p q a b c) := ⟨fun u x y => by rw [zJ_copy_ne (by omega)]; exact h.1 u x y, by rw [zJ_copy_ne hq.2]; exact h.2.1, by rw [zJ_copy_ne hq.2]; exact h.2.2⟩
def FGA (σ0 σ : zS) : Prop := ∀ q, (q < 36 ∨ q = 41 ∨ 63 < q) → σ q = σ0 q
theorem FGA.up {σ0 σ : zS} {p i : Nat} {x : Int32} (hp : (36 ≤ p ∧ p ≤ 63) ∧ p ≠ 41) (h : FGA σ0 σ) : FGA σ0 (zx_up σ p i x) := fun q hq => by rw [zu_other (by omega)]; exact h q hq
theorem FGA.cp {σ0 σ : zS} {p q : Nat} {a b c : Int32} (hq : (36 ≤ q ∧ q ≤ 63) ∧ q ≠ 41) (h : FGA σ0 σ) : FGA σ0 (zJ_copy σ p q a b c) := fun u hu => by rw [zJ_copy_ne (by omega)]; exact h u hu
theorem xe_b_Machine_setFirst_50 {σ0 : zS} {k15 : zS → Int32 → Option (zS)} {N : Nat} {σ : zS} {v1 : Int32} {v2 : Int32} (hk15 : ∀ (y0 : zS) (y1 : Int32), FE σ0 y0 → zp (k15 y0 y1) (fun r => FE σ0 r)) (hs : FE σ0 σ) : zp (zb_Machine_setFirst_50 k15 N σ v1 v2) (fun r => FE σ0 r) := by
  unfold zb_Machine_setFirst_50
  refine zp_chk fun _ => ?_
  exact hk15 _ _ (FE.up (by decide) hs)
theorem xe_b_Machine_setFirst_36 {σ0 : zS} {k15 : zS → Int32 → Option (zS)} {N : Nat} {σ : zS} {v1 : Int32} {s0 : Int32} (hk15 : ∀ (y0 : zS) (y1 : Int32), FE σ0 y0 → zp (k15 y0 y1) (fun r => FE σ0 r)) (hs : FE σ0 σ) : zp (zb_Machine_setFirst_36 k15 N σ v1 s0) (fun r => FE σ0 r) := by
  unfold zb_Machine_setFirst_36
  refine zp_bind fun r4 _ => ?_
  refine zp_ite (fun _ => ?_) fun _ => ?_
  ·
    exact xe_b_Machine_setFirst_50 (hk15) hs
  ·
    exact xe_b_Machine_setFirst_50 (hk15) hs
theorem xe_b_Machine_setFirst_15 {σ0 : zS} {N : Nat}  : ∀ (n : Nat) (σ : zS) (v1 : Int32), FE σ0 σ → zp (zb_Machine_setFirst_15 N n σ v1) (fun r => FE σ0 r) := by
  intro n
  induction n with
  | zero => intro _ _ _; exact zp_none
  | succ n ih =>
    intro σ v1 hs
    rw [zb_Machine_setFirst_15]
    refine zp_ite (fun _ => ?_) fun _ => ?_
    ·
      exact zp_some hs
    ·
      refine zp_bind fun r2 _ => ?_
      refine zp_ite (fun _ => ?_) fun _ => ?_
      ·
        exact xe_b_Machine_setFirst_36 (ih) hs
      ·
        exact xe_b_Machine_setFirst_36 (ih) hs
theorem xe_f_Machine_setFirst {σ0 : zS} {N : Nat} {σ : zS}  (hs : FE σ0 σ) : zp (zf_Machine_setFirst N σ) (fun r => FE σ0 r) := by
  unfold zf_Machine_setFirst
  exact xe_b_Machine_setFirst_15  _ _ _ (FE.up (by decide) hs)
theorem xe_b_Arrays_fill_c4_5 {σ0 : zS} {N : Nat}  : ∀ (n : Nat) (σ : zS) (v1 : Int32) (v2 : Int32) (v3 : Int32), FE σ0 σ → zp (zb_Arrays_fill_c4_5 N n σ v1 v2 v3) (fun r => FE σ0 r) := by
  intro n
  induction n with
  | zero => intro _ _ _ _ _; exact zp_none
  | succ n ih =>
    intro σ v1 v2 v3 hs
    rw [zb_Arrays_fill_c4_5]
    refine zp_ite (fun _ => ?_) fun _ => ?_
    ·
      exact zp_some hs
    ·
      refine zp_chk fun _ => ?_
      exact ih _ _ _ _ (FE.up (by decide) hs)
theorem xe_f_Arrays_fill_c4 {σ0 : zS} {N : Nat} {σ : zS} {x2 : Int32}  (hs : FE σ0 σ) : zp (zf_Arrays_fill_c4 N σ x2) (fun r => FE σ0 r) := by
  unfold zf_Arrays_fill_c4
  exact xe_b_Arrays_fill_c4_5  _ _ _ _ _ hs
theorem xe_b_Machine_load_130 {σ0 : zS} {k34 : zS → Int32 → Option (zS)} {N : Nat} {σ : zS} {v3 : Int32} (hk34 : ∀ (y0 : zS) (y1 : Int32), FE σ0 y0 → zp (k34 y0 y1) (fun r => FE σ0 r)) (hs : FE σ0 σ) : zp (zb_Machine_load_130 k34 N σ v3) (fun r => FE σ0 r) := by
  unfold zb_Machine_load_130
  exact hk34 _ _ hs
theorem xe_b_Machine_load_124 {σ0 : zS} {k95 : zS → Int32 → Int32 → Int32 → Option (zS)} {N : Nat} {σ : zS} {v3 : Int32} {v5 : Int32} {v6 : Int32} (hk95 : ∀ (y0 : zS) (y1 : Int32) (y2 : Int32) (y3 : Int32), FE σ0 y0 → zp (k95 y0 y1 y2 y3) (fun r => FE σ0 r)) (hs : FE σ0 σ) : zp (zb_Machine_load_124 k95 N σ v3 v5 v6) (fun r => FE σ0 r) := by
  unfold zb_Machine_load_124
  exact hk95 _ _ _ _ hs
theorem xe_b_Machine_load_95 {σ0 : zS} {k34 : zS → Int32 → Option (zS)} {N : Nat} (hk34 : ∀ (y0 : zS) (y1 : Int32), FE σ0 y0 → zp (k34 y0 y1) (fun r => FE σ0 r)) : ∀ (n : Nat) (σ : zS) (v3 : Int32) (v5 : Int32) (v6 : Int32), FE σ0 σ → zp (zb_Machine_load_95 k34 N n σ v3 v5 v6) (fun r => FE σ0 r) := by
  intro n
  induction n with
  | zero => intro _ _ _ _ _; exact zp_none
  | succ n ih =>
    intro σ v3 v5 v6 hs
    rw [zb_Machine_load_95]
    refine zp_ite (fun _ => ?_) fun _ => ?_
    ·
      exact xe_b_Machine_load_130 (hk34) hs
    ·
      refine zp_ite (fun _ => ?_) fun _ => ?_
      ·
        exact xe_b_Machine_load_130 (hk34) hs
      ·
        refine zp_ite (fun _ => ?_) fun _ => ?_
        ·
          exact xe_b_Machine_load_124 (ih) hs
        ·
          refine zp_chk fun _ => ?_
          exact xe_b_Machine_load_124 (ih) (FE.up (by decide) hs)
theorem xe_b_Machine_load_34 {σ0 : zS} {N : Nat}  : ∀ (n : Nat) (σ : zS) (v3 : Int32), FE σ0 σ → zp (zb_Machine_load_34 N n σ v3) (fun r => FE σ0 r) := by
  intro n
  induction n with
  | zero => intro _ _ _; exact zp_none
  | succ n ih =>
    intro σ v3 hs
    rw [zb_Machine_load_34]
    refine zp_ite (fun _ => ?_) fun _ => ?_
    ·
      exact zp_some hs
    ·
      refine zp_chk fun _ => ?_
      refine zp_chk fun _ => ?_
      refine zp_bind fun r8 _ => ?_
      refine zp_chk fun _ => ?_
      refine zp_bind fun r10 _ => ?_
      exact xe_b_Machine_load_95 (ih) _ _ _ _ _ (FE.up (by decide) (FE.up (by decide) hs))
theorem xe_f_Machine_load {σ0 : zS} {N : Nat} {σ : zS} {x2 : Int32}  (hs : FE σ0 σ) : zp (zf_Machine_load N σ x2) (fun r => FE σ0 r) := by
  unfold zf_Machine_load
  refine zp_ite (fun _ => ?_) fun _ => ?_
  ·
    exact zp_some hs
  ·
    refine zp_ite (fun _ => ?_) fun _ => ?_
    ·
      refine zp_chk fun _ => ?_
      refine zp_bind (zp_mono (xe_f_Arrays_fill_c4  (FE.cp (by decide) hs)) fun r4 hr4 => ?_)
      exact xe_b_Machine_load_34  _ _ _ hr4
    ·
      exact zp_some hs
theorem xe_f_Space_load {σ0 : zS} {N : Nat} {σ : zS} {x1 : Int32}  (hs : FE σ0 σ) : zp (zf_Space_load N σ x1) (fun r => FE σ0 r) := by
  unfold zf_Space_load
  refine zp_bind fun r1 _ => ?_
  refine zp_ite (fun _ => ?_) fun _ => ?_
  ·
    exact zp_some hs
  ·
    refine zp_bind (zp_mono (xe_f_Machine_load  hs) fun r3 hr3 => ?_)
    exact zp_some hr3
theorem xe_b_Machine_place_30 {σ0 : zS} {σ : zS} {v1 : Int32} {v2 : Int32} {v3 : Int32} {s0 : Int32}  (hs : FE σ0 σ) : zp (zb_Machine_place_30 σ v1 v2 v3 s0) (fun r => FE σ0 r) := by
  unfold zb_Machine_place_30
  refine zp_ite (fun _ => ?_) fun _ => ?_
  ·
    exact zp_some hs
  ·
    refine zp_ite (fun _ => ?_) fun _ => ?_
    ·
      exact zp_some hs
    ·
      refine zp_chk fun _ => ?_
      refine zp_chk fun _ => ?_
      exact zp_some (FE.up (by decide) hs)
theorem xe_b_Machine_place_15 {σ0 : zS} {σ : zS} {v1 : Int32} {v2 : Int32} {v3 : Int32} {s0 : Int32}  (hs : FE σ0 σ) : zp (zb_Machine_place_15 σ v1 v2 v3 s0) (fun r => FE σ0 r) := by
  unfold zb_Machine_place_15
  refine zp_ite (fun _ => ?_) fun _ => ?_
  ·
    exact xe_b_Machine_place_30  hs
  ·
    exact xe_b_Machine_place_30  hs
theorem xe_b_Machine_place_10 {σ0 : zS} {σ : zS} {v1 : Int32} {v2 : Int32} {v3 : Int32}  (hs : FE σ0 σ) : zp (zb_Machine_place_10 σ v1 v2 v3) (fun r => FE σ0 r) := by
  unfold zb_Machine_place_10
  exact xe_b_Machine_place_15  hs
theorem xe_f_Machine_place {σ0 : zS} {σ : zS} {x1 : Int32} {x2 : Int32} {x3 : Int32}  (hs : FE σ0 σ) : zp (zf_Machine_place σ x1 x2 x3) (fun r => FE σ0 r) := by
  unfold zf_Machine_place
  refine zp_ite (fun _ => ?_) fun _ => ?_
  ·
    exact xe_b_Machine_place_10  hs
  ·
    refine zp_ite (fun _ => ?_) fun _ => ?_
    ·
      exact xe_b_Machine_place_15  hs
    ·
      exact xe_b_Machine_place_10  hs
theorem xe_b_Machine_goTo_49 {σ0 : zS} {σ : zS} {s0 : Int32} {s1 : Int32} {s2 : Int32}  (hs : FE σ0 σ) : zp (zb_Machine_goTo_49 σ s0 s1 s2) (fun r => FE σ0 r) := by
  unfold zb_Machine_goTo_49
  refine zp_bind (zp_mono (xe_f_Machine_place  hs) fun r4 hr4 => ?_)
  exact zp_some hr4
theorem xe_b_Machine_goTo_40 {σ0 : zS} {σ : zS} {v3 : Int32} {s0 : Int32} {s1 : Int32}  (hs : FE σ0 σ) : zp (zb_Machine_goTo_40 σ v3 s0 s1) (fun r => FE σ0 r) := by
  unfold zb_Machine_goTo_40
  refine zp_ite (fun _ => ?_) fun _ => ?_
  ·
    exact xe_b_Machine_goTo_49  hs
  ·
    exact xe_b_Machine_goTo_49  hs
theorem xe_b_Machine_goTo_21 {σ0 : zS} {σ : zS} {v1 : Int32} {v2 : Int32} {s0 : Int32}  (hs : FE σ0 σ) : zp (zb_Machine_goTo_21 σ v1 v2 s0) (fun r => FE σ0 r) := by
  unfold zb_Machine_goTo_21
  refine zp_ite (fun _ => ?_) fun _ => ?_
  ·
    exact xe_b_Machine_goTo_40  hs
  ·
    refine zp_bind fun r5 _ => ?_
    exact xe_b_Machine_goTo_40  hs
theorem xe_b_Machine_goTo_16 {σ0 : zS} {σ : zS} {v1 : Int32} {v2 : Int32}  (hs : FE σ0 σ) : zp (zb_Machine_goTo_16 σ v1 v2) (fun r => FE σ0 r) := by
  unfold zb_Machine_goTo_16
  exact xe_b_Machine_goTo_21  hs
theorem xe_f_Machine_goTo {σ0 : zS} {σ : zS} {x1 : Int32} {x2 : Int32}  (hs : FE σ0 σ) : zp (zf_Machine_goTo σ x1 x2) (fun r => FE σ0 r) := by
  unfold zf_Machine_goTo
  refine zp_ite (fun _ => ?_) fun _ => ?_
  ·
    exact xe_b_Machine_goTo_16  hs
  ·
    refine zp_bind fun r6 _ => ?_
    refine zp_ite (fun _ => ?_) fun _ => ?_
    ·
      exact xe_b_Machine_goTo_21  hs
    ·
      exact xe_b_Machine_goTo_16  hs
theorem xe_f_Machine_startThread {σ0 : zS} {σ : zS} {x1 : Int32}  (hs : FE σ0 σ) : zp (zf_Machine_startThread σ x1) (fun r => FE σ0 r.2) := by
  unfold zf_Machine_startThread
  refine zp_bind fun r1 _ => ?_
  refine zp_ite (fun _ => ?_) fun _ => ?_
  ·
    refine zp_bind (zp_mono (xe_f_Machine_goTo  hs) fun r3 hr3 => ?_)
    exact zp_some hr3
  ·
    exact zp_some hs
theorem xe_b_Machine_signal_121 {σ0 : zS} {k49 : zS → Int32 → Int32 → Int32 → Int32 → Option (Int32 × zS)} {N : Nat} {σ : zS} {v3 : Int32} {v4 : Int32} {v5 : Int32} {v6 : Int32} (hk49 : ∀ (y0 : zS) (y1 : Int32) (y2 : Int32) (y3 : Int32) (y4 : Int32), FE σ0 y0 → zp (k49 y0 y1 y2 y3 y4) (fun r => FE σ0 r.2)) (hs : FE σ0 σ) : zp (zb_Machine_signal_121 k49 N σ v3 v4 v5 v6) (fun r => FE σ0 r.2) := by
  unfold zb_Machine_signal_121
  exact hk49 _ _ _ _ _ hs
theorem xe_b_Machine_signal_119 {σ0 : zS} {k49 : zS → Int32 → Int32 → Int32 → Int32 → Option (Int32 × zS)} {N : Nat} {σ : zS} {v3 : Int32} {v4 : Int32} {v6 : Int32} {s0 : Int32} (hk49 : ∀ (y0 : zS) (y1 : Int32) (y2 : Int32) (y3 : Int32) (y4 : Int32), FE σ0 y0 → zp (k49 y0 y1 y2 y3 y4) (fun r => FE σ0 r.2)) (hs : FE σ0 σ) : zp (zb_Machine_signal_119 k49 N σ v3 v4 v6 s0) (fun r => FE σ0 r.2) := by
  unfold zb_Machine_signal_119
  exact xe_b_Machine_signal_121 (hk49) hs
theorem xe_b_Machine_signal_49 {σ0 : zS} {N : Nat}  : ∀ (n : Nat) (σ : zS) (v3 : Int32) (v4 : Int32) (v5 : Int32) (v6 : Int32), FE σ0 σ → zp (zb_Machine_signal_49 N n σ v3 v4 v5 v6) (fun r => FE σ0 r.2) := by
  intro n
  induction n with
  | zero => intro _ _ _ _ _ _; exact zp_none
  | succ n ih =>
    intro σ v3 v4 v5 v6 hs
    rw [zb_Machine_signal_49]
    refine zp_ite (fun _ => ?_) fun _ => ?_
    ·
      exact zp_some hs
    ·
      refine zp_ite (fun _ => ?_) fun _ => ?_
      ·
        exact zp_some hs
      ·
        refine zp_bind fun r8 _ => ?_
        refine zp_ite (fun _ => ?_) fun _ => ?_
        ·
          exact xe_b_Machine_signal_121 (ih) hs
        ·
          refine zp_bind fun r10 _ => ?_
          refine zp_chk fun _ => ?_
          refine zp_ite (fun _ => ?_) fun _ => ?_
          ·
            exact xe_b_Machine_signal_121 (ih) hs
          ·
            refine zp_bind fun r13 _ => ?_
            refine zp_bind (zp_mono (xe_f_Machine_place  hs) fun r14 hr14 => ?_)
            refine zp_ite (fun _ => ?_) fun _ => ?_
            ·
              exact xe_b_Machine_signal_119 (ih) hr14
            ·
              exact xe_b_Machine_signal_119 (ih) hr14
theorem xe_b_Machine_signal_44 {σ0 : zS} {N : Nat} {σ : zS} {v3 : Int32} {v4 : Int32} {s0 : Int32}  (hs : FE σ0 σ) : zp (zb_Machine_signal_44 N σ v3 v4 s0) (fun r => FE σ0 r.2) := by
  unfold zb_Machine_signal_44
  exact xe_b_Machine_signal_49  _ _ _ _ _ _ hs
theorem xe_f_Machine_signal {σ0 : zS} {N : Nat} {σ : zS} {x1 : Int32} {x2 : Int32}  (hs : FE σ0 σ) : zp (zf_Machine_signal N σ x1 x2) (fun r => FE σ0 r.2) := by
  unfold zf_Machine_signal
  refine zp_chk fun _ => ?_
  refine zp_chk fun _ => ?_
  refine zp_bind fun r3 _ => ?_
  refine zp_ite (fun _ => ?_) fun _ => ?_
  ·
    refine zp_ite (fun _ => ?_) fun _ => ?_
    ·
      exact xe_b_Machine_signal_44  hs
    ·
      exact xe_b_Machine_signal_44  hs
  ·
    exact zp_some hs
theorem xe_b_Machine_work_150 {σ0 : zS} {σ : zS} {v4 : Int32} {v6 : Int32} {s0 : Int32} {s1 : Int32}  (hs : FE σ0 σ) : zp (zb_Machine_work_150 σ v4 v6 s0 s1) (fun r => FE σ0 r) := by
  unfold zb_Machine_work_150
  refine zp_ite (fun _ => ?_) fun _ => ?_
  ·
    exact zp_some hs
  ·
    refine zp_ite (fun _ => ?_) fun _ => ?_
    ·
      exact zp_some hs
    ·
      refine zp_chk fun _ => ?_
      refine zp_chk fun _ => ?_
      exact zp_some (FE.up (by decide) hs)
theorem xe_b_Machine_work_121 {σ0 : zS} {σ : zS} {v2 : Int32} {v3 : Int32} {v4 : Int32} {s0 : Int32}  (hs : FE σ0 σ) : zp (zb_Machine_work_121 σ v2 v3 v4 s0) (fun r => FE σ0 r) := by
  unfold zb_Machine_work_121
  refine zp_ite (fun _ => ?_) fun _ => ?_
  ·
    refine zp_chk fun _ => ?_
    exact xe_b_Machine_work_150  hs
  ·
    refine zp_chk fun _ => ?_
    exact xe_b_Machine_work_150  hs
theorem xe_b_Machine_work_109 {σ0 : zS} {σ : zS} {v1 : Int32} {v2 : Int32} {v3 : Int32} {v4 : Int32}  (hs : FE σ0 σ) : zp (zb_Machine_work_109 σ v1 v2 v3 v4) (fun r => FE σ0 r) := by
  unfold zb_Machine_work_109
  refine zp_ite (fun _ => ?_) fun _ => ?_
  ·
    exact xe_b_Machine_work_121  hs
  ·
    exact xe_b_Machine_work_121  hs
theorem xe_f_Machine_work {σ0 : zS} {σ : zS} {x1 : Int32} {x2 : Int32}  (hs : FE σ0 σ) : zp (zf_Machine_work σ x1 x2) (fun r => FE σ0 r) := by
  unfold zf_Machine_work
  refine zp_chk fun _ => ?_
  refine zp_chk fun _ => ?_
  refine zp_bind fun r3 _ => ?_
  refine zp_chk fun _ => ?_
  refine zp_bind fun r5 _ => ?_
  refine zp_ite (fun _ => ?_) fun _ => ?_
  ·
    refine zp_chk fun _ => ?_
    refine zp_ite (fun _ => ?_) fun _ => ?_
    ·
      refine zp_chk fun _ => ?_
      refine zp_ite (fun _ => ?_) fun _ => ?_
      ·
        exact xe_b_Machine_work_109  hs
      ·
        exact xe_b_Machine_work_109  hs
    ·
      exact xe_b_Machine_work_109  hs
  ·
    refine zp_chk fun _ => ?_
    refine zp_bind fun r20 _ => ?_
    exact xe_b_Machine_work_109  hs
theorem xe_b_Machine_move_317 {σ0 : zS} {N : Nat} {σ : zS} {v1 : Int32} {v6 : Int32}  (hs : FE σ0 σ) : zp (zb_Machine_move_317 N σ v1 v6) (fun r => FE σ0 r) := by
  unfold zb_Machine_move_317
  refine zp_bind (zp_mono (xe_f_Machine_goTo  hs) fun r28 hr28 => ?_)
  exact zp_some hr28
theorem xe_b_Machine_move_261 {σ0 : zS} {N : Nat} {σ : zS} {v1 : Int32} {v3 : Int32} {v5 : Int32} {v6 : Int32}  (hs : FE σ0 σ) : zp (zb_Machine_move_261 N σ v1 v3 v5 v6) (fun r => FE σ0 r) := by
  unfold zb_Machine_move_261
  refine zp_ite (fun _ => ?_) fun _ => ?_
  ·
    refine zp_bind fun r26 _ => ?_
    refine zp_ite (fun _ => ?_) fun _ => ?_
    ·
      exact xe_b_Machine_move_317  hs
    ·
      refine zp_chk fun _ => ?_
      refine zp_ite (fun _ => ?_) fun _ => ?_
      ·
        exact xe_b_Machine_move_317  hs
      ·
        refine zp_bind fun r31 _ => ?_
        refine zp_bind (zp_mono (xe_f_Machine_place  hs) fun r32 hr32 => ?_)
        exact zp_some hr32
  ·
    refine zp_bind fun r33 _ => ?_
    refine zp_bind (zp_mono (xe_f_Machine_place  hs) fun r34 hr34 => ?_)
    exact zp_some hr34
theorem xe_b_Machine_move_216 {σ0 : zS} {N : Nat} {σ : zS} {v1 : Int32} {v3 : Int32} {v5 : Int32} {s0 : Int32}  (hs : FE σ0 σ) : zp (zb_Machine_move_216 N σ v1 v3 v5 s0) (fun r => FE σ0 r) := by
  unfold zb_Machine_move_216
  exact xe_b_Machine_move_261  hs
theorem xe_b_Machine_move_116 {σ0 : zS} {N : Nat} {σ : zS} {v1 : Int32} {v3 : Int32} {v5 : Int32} {v6 : Int32} {s0 : Int32}  (hs : FE σ0 σ) : zp (zb_Machine_move_116 N σ v1 v3 v5 v6 s0) (fun r => FE σ0 r) := by
  unfold zb_Machine_move_116
  refine zp_ite (fun _ => ?_) fun _ => ?_
  ·
    refine zp_bind (zp_mono (xe_f_Machine_work  hs) fun r49 hr49 => ?_)
    exact xe_b_Machine_move_261  hr49
  ·
    refine zp_ite (fun _ => ?_) fun _ => ?_
    ·
      refine zp_bind (zp_mono (xe_f_Machine_work  hs) fun r48 hr48 => ?_)
      exact xe_b_Machine_move_261  hr48
    ·
      refine zp_ite (fun _ => ?_) fun _ => ?_
      ·
        refine zp_bind (zp_mono (xe_f_Machine_work  hs) fun r47 hr47 => ?_)
        exact xe_b_Machine_move_261  hr47
      ·
        refine zp_ite (fun _ => ?_) fun _ => ?_
        ·
          exact xe_b_Machine_move_261  hs
        ·
          refine zp_ite (fun _ => ?_) fun _ => ?_
          ·
            exact xe_b_Machine_move_261  hs
          ·
            refine zp_ite (fun _ => ?_) fun _ => ?_
            ·
              refine zp_bind fun r44 _ => ?_
              refine zp_ite (fun _ => ?_) fun _ => ?_
              ·
                refine zp_chk fun _ => ?_
                exact xe_b_Machine_move_216  hs
              ·
                exact xe_b_Machine_move_216  hs
            ·
              refine zp_ite (fun _ => ?_) fun _ => ?_
              ·
                refine zp_bind fun r41 _ => ?_
                refine zp_ite (fun _ => ?_) fun _ => ?_
                ·
                  refine zp_chk fun _ => ?_
                  exact xe_b_Machine_move_216  hs
                ·
                  exact xe_b_Machine_move_216  hs
              ·
                refine zp_ite (fun _ => ?_) fun _ => ?_
                ·
                  refine zp_bind (zp_mono (xe_f_Machine_signal  hs) fun r40 hr40 => ?_)
                  exact xe_b_Machine_move_261  hr40
                ·
                  refine zp_ite (fun _ => ?_) fun _ => ?_
                  ·
                    refine zp_bind (zp_mono (xe_f_Machine_signal  hs) fun r39 hr39 => ?_)
                    exact xe_b_Machine_move_261  hr39
                  ·
                    refine zp_ite (fun _ => ?_) fun _ => ?_
                    ·
                      refine zp_bind (zp_mono (xe_f_Machine_signal  hs) fun r38 hr38 => ?_)
                      exact xe_b_Machine_move_261  hr38
                    ·
                      refine zp_ite (fun _ => ?_) fun _ => ?_
                      ·
                        refine zp_chk fun _ => ?_
                        refine zp_bind (zp_mono (xe_f_Machine_startThread  hs) fun r37 hr37 => ?_)
                        exact xe_b_Machine_move_261  hr37
                      ·
                        refine zp_ite (fun _ => ?_) fun _ => ?_
                        ·
                          exact xe_b_Machine_move_261  hs
                        ·
                          refine zp_ite (fun _ => ?_) fun _ => ?_
                          ·
                            refine zp_bind fun r35 _ => ?_
                            exact xe_b_Machine_move_261  hs
                          ·
                            exact xe_b_Machine_move_261  hs
theorem xe_b_Machine_move_39 {σ0 : zS} {N : Nat} {σ : zS} {v1 : Int32} {v3 : Int32} {s0 : Int32}  (hs : FE σ0 σ) : zp (zb_Machine_move_39 N σ v1 v3 s0) (fun r => FE σ0 r) := by
  unfold zb_Machine_move_39
  refine zp_chk fun _ => ?_
  refine zp_chk fun _ => ?_
  refine zp_chk fun _ => ?_
  refine zp_bind fun r9 _ => ?_
  refine zp_ite (fun _ => ?_) fun _ => ?_
  ·
    refine zp_chk fun _ => ?_
    exact xe_b_Machine_move_116  (FE.up (by decide) (FE.cp (by decide) hs))
  ·
    exact xe_b_Machine_move_116  (FE.up (by decide) (FE.cp (by decide) hs))
theorem xe_b_Machine_move_38 {σ0 : zS} {N : Nat} {σ : zS} {v1 : Int32} {v3 : Int32}  (hs : FE σ0 σ) : zp (zb_Machine_move_38 N σ v1 v3) (fun r => FE σ0 r) := by
  unfold zb_Machine_move_38
  exact xe_b_Machine_move_39  hs
theorem xe_f_Machine_move {σ0 : zS} {N : Nat} {σ : zS} {x1 : Int32} {x2 : Int32}  (hs : FE σ0 σ) : zp (zf_Machine_move N σ x1 x2) (fun r => FE σ0 r) := by
  unfold zf_Machine_move
  refine zp_ite (fun _ => ?_) fun _ => ?_
  ·
    exact zp_some hs
  ·
    refine zp_ite (fun _ => ?_) fun _ => ?_
    ·
      refine zp_bind fun r3 _ => ?_
      refine zp_ite (fun _ => ?_) fun _ => ?_
      ·
        exact xe_b_Machine_move_38  hs
      ·
        refine zp_chk fun _ => ?_
        refine zp_ite (fun _ => ?_) fun _ => ?_
        ·
          exact xe_b_Machine_move_38  hs
        ·
          exact xe_b_Machine_move_39  hs
    ·
      exact zp_some hs
theorem xe_b_Space_wayTo_90 {σ0 : zS} {k51 : zS → Int32 → Int32 → Int32 → Option (Int32 × zS)} {N : Nat} {σ : zS} {v3 : Int32} {v4 : Int32} {v5 : Int32} (hk51 : ∀ (y0 : zS) (y1 : Int32) (y2 : Int32) (y3 : Int32), FE σ0 y0 → zp (k51 y0 y1 y2 y3) (fun r => FE σ0 r.2)) (hs : FE σ0 σ) : zp (zb_Space_wayTo_90 k51 N σ v3 v4 v5) (fun r => FE σ0 r.2) := by
  unfold zb_Space_wayTo_90
  refine zp_chk fun _ => ?_
  exact hk51 _ _ _ _ hs
theorem xe_b_Space_wayTo_51 {σ0 : zS} {N : Nat}  : ∀ (n : Nat) (σ : zS) (v3 : Int32) (v4 : Int32) (v5 : Int32), FE σ0 σ → zp (zb_Space_wayTo_51 N n σ v3 v4 v5) (fun r => FE σ0 r.2) := by
  intro n
  induction n with
  | zero => intro _ _ _ _ _; exact zp_none
  | succ n ih =>
    intro σ v3 v4 v5 hs
    rw [zb_Space_wayTo_51]
    refine zp_ite (fun _ => ?_) fun _ => ?_
    ·
      exact zp_some hs
    ·
      refine zp_bind fun r3 _ => ?_
      refine zp_ite (fun _ => ?_) fun _ => ?_
      ·
        exact zp_some hs
      ·
        refine zp_ite (fun _ => ?_) fun _ => ?_
        ·
          exact zp_some hs
        ·
          refine zp_ite (fun _ => ?_) fun _ => ?_
          ·
            exact xe_b_Space_wayTo_90 (ih) hs
          ·
            refine zp_chk fun _ => ?_
            refine zp_chk fun _ => ?_
            exact xe_b_Space_wayTo_90 (ih) (FE.up (by decide) hs)
theorem xe_b_Space_wayTo_43 {σ0 : zS} {N : Nat} {σ : zS} {v1 : Int32} {v3 : Int32}  (hs : FE σ0 σ) : zp (zb_Space_wayTo_43 N σ v1 v3) (fun r => FE σ0 r.2) := by
  unfold zb_Space_wayTo_43
  exact xe_b_Space_wayTo_51  _ _ _ _ _ hs
theorem xe_b_Space_wayTo_5 {σ0 : zS} {N : Nat}  : ∀ (n : Nat) (σ : zS) (v1 : Int32) (v3 : Int32) (v4 : Int32), FE σ0 σ → zp (zb_Space_wayTo_5 N n σ v1 v3 v4) (fun r => FE σ0 r.2) := by
  intro n
  induction n with
  | zero => intro _ _ _ _ _; exact zp_none
  | succ n ih =>
    intro σ v1 v3 v4 hs
    rw [zb_Space_wayTo_5]
    refine zp_ite (fun _ => ?_) fun _ => ?_
    ·
      exact xe_b_Space_wayTo_43  hs
    ·
      refine zp_bind fun r10 _ => ?_
      refine zp_ite (fun _ => ?_) fun _ => ?_
      ·
        exact xe_b_Space_wayTo_43  hs
      ·
        refine zp_ite (fun _ => ?_) fun _ => ?_
        ·
          exact xe_b_Space_wayTo_43  hs
        ·
          refine zp_chk fun _ => ?_
          exact ih _ _ _ _ hs
theorem xe_f_Space_wayTo {σ0 : zS} {N : Nat} {σ : zS} {x1 : Int32}  (hs : FE σ0 σ) : zp (zf_Space_wayTo N σ x1) (fun r => FE σ0 r.2) := by
  unfold zf_Space_wayTo
  exact xe_b_Space_wayTo_5  _ _ _ _ _ hs
theorem xe_f_X_show {σ0 : zS} {N : Nat} {σ : zS} {x1 : Int32} {x2 : Int32}  (hs : FE σ0 σ) : zp (zf_X_show N σ x1 x2) (fun r => FE σ0 r.2) := by
  unfold zf_X_show
  refine zp_ite (fun _ => ?_) fun _ => ?_
  ·
    refine zp_bind fun r2 _ => ?_
    refine zp_ite (fun _ => ?_) fun _ => ?_
    ·
      refine zp_bind (zp_mono (xe_f_Space_wayTo  hs) fun r4 hr4 => ?_)
      exact zp_some (FE.u2 (by decide) hr4)
    ·
      exact zp_some hs
  ·
    exact zp_some hs
theorem xe_f_X_thread {σ0 : zS} {N : Nat} {σ : zS} {x1 : Int32} {x2 : Int32} {x3 : Int32}  (hs : FE σ0 σ) : zp (zf_X_thread N σ x1 x2 x3) (fun r => FE σ0 r.2) := by
  unfold zf_X_thread
  refine zp_ite (fun _ => ?_) fun _ => ?_
  ·
    refine zp_bind fun r2 _ => ?_
    refine zp_ite (fun _ => ?_) fun _ => ?_
    ·
      exact zp_some hs
    ·
      refine zp_bind fun r4 _ => ?_
      refine zp_ite (fun _ => ?_) fun _ => ?_
      ·
        refine zp_bind (zp_mono (xe_f_Space_load  hs) fun r6 hr6 => ?_)
        refine zp_ite (fun _ => ?_) fun _ => ?_
        ·
          refine zp_bind fun r19 _ => ?_
          exact zp_some hr6
        ·
          refine zp_ite (fun _ => ?_) fun _ => ?_
          ·
            refine zp_bind fun r18 _ => ?_
            exact zp_some hr6
          ·
            refine zp_ite (fun _ => ?_) fun _ => ?_
            ·
              refine zp_bind fun r16 _ => ?_
              refine zp_ite (fun _ => ?_) fun _ => ?_
              ·
                exact zp_some hr6
              ·
                exact zp_some hr6
            ·
              refine zp_ite (fun _ => ?_) fun _ => ?_
              ·
                refine zp_bind fun r15 _ => ?_
                exact zp_some hr6
              ·
                refine zp_ite (fun _ => ?_) fun _ => ?_
                ·
                  refine zp_bind fun r14 _ => ?_
                  exact zp_some hr6
                ·
                  refine zp_ite (fun _ => ?_) fun _ => ?_
                  ·
                    refine zp_bind fun r13 _ => ?_
                    exact zp_some hr6
                  ·
                    exact zp_some hr6
      ·
        exact zp_some hs
  ·
    exact zp_some hs
theorem xe_f_X_field {σ0 : zS} {N : Nat} {σ : zS} {x1 : Int32} {x2 : Int32}  (hs : FE σ0 σ) : zp (zf_X_field N σ x1 x2) (fun r => FE σ0 r.2) := by
  unfold zf_X_field
  refine zp_ite (fun _ => ?_) fun _ => ?_
  ·
    refine zp_ite (fun _ => ?_) fun _ => ?_
    ·
      exact zp_some hs
    ·
      refine zp_ite (fun _ => ?_) fun _ => ?_
      ·
        exact zp_some hs
      ·
        refine zp_bind fun r4 _ => ?_
        refine zp_ite (fun _ => ?_) fun _ => ?_
        ·
          refine zp_bind (zp_mono (xe_f_Space_load  hs) fun r6 hr6 => ?_)
          refine zp_bind fun r7 _ => ?_
          exact zp_some hr6
        ·
          exact zp_some hs
  ·
    exact zp_some hs
theorem xe_f_X_owner {σ0 : zS} {N : Nat} {σ : zS} {x1 : Int32} {x2 : Int32}  (hs : FE σ0 σ) : zp (zf_X_owner N σ x1 x2) (fun r => FE σ0 r.2) := by
  unfold zf_X_owner
  refine zp_ite (fun _ => ?_) fun _ => ?_
  ·
    refine zp_ite (fun _ => ?_) fun _ => ?_
    ·
      exact zp_some hs
    ·
      refine zp_ite (fun _ => ?_) fun _ => ?_
      ·
        exact zp_some hs
      ·
        refine zp_bind fun r4 _ => ?_
        refine zp_ite (fun _ => ?_) fun _ => ?_
        ·
          refine zp_bind (zp_mono (xe_f_Space_load  hs) fun r6 hr6 => ?_)
          refine zp_bind fun r7 _ => ?_
          exact zp_some hr6
        ·
          exact zp_some hs
  ·
    exact zp_some hs
theorem xe_f_X_stuck {σ0 : zS} {N : Nat} {σ : zS} {x1 : Int32}  (hs : FE σ0 σ) : zp (zf_X_stuck N σ x1) (fun r => FE σ0 r.2) := by
  unfold zf_X_stuck
  refine zp_ite (fun _ => ?_) fun _ => ?_
  ·
    refine zp_bind fun r2 _ => ?_
    refine zp_ite (fun _ => ?_) fun _ => ?_
    ·
      exact zp_some hs
    ·
      refine zp_bind fun r4 _ => ?_
      refine zp_ite (fun _ => ?_) fun _ => ?_
      ·
        refine zp_bind (zp_mono (xe_f_Space_load  hs) fun r6 hr6 => ?_)
        refine zp_bind fun r7 _ => ?_
        refine zp_ite (fun _ => ?_) fun _ => ?_
        ·
          refine zp_bind fun r9 _ => ?_
          refine zp_ite (fun _ => ?_) fun _ => ?_
          ·
            refine zp_bind fun r11 _ => ?_
            refine zp_ite (fun _ => ?_) fun _ => ?_
            ·
              exact zp_some hr6
            ·
              exact zp_some hr6
          ·
            exact zp_some hr6
        ·
          exact zp_some hr6
      ·
        exact zp_some hs
  ·
    exact zp_some hs
theorem xe_b_Arrays_fill_c7_5 {σ0 : zS} {N : Nat}  : ∀ (n : Nat) (σ : zS) (v1 : Int32) (v2 : Int32) (v3 : Int32), FE σ0 σ → zp (zb_Arrays_fill_c7_5 N n σ v1 v2 v3) (fun r => FE σ0 r) := by
  intro n
  induction n with
  | zero => intro _ _ _ _ _; exact zp_none
  | succ n ih =>
    intro σ v1 v2 v3 hs
    rw [zb_Arrays_fill_c7_5]
    refine zp_ite (fun _ => ?_) fun _ => ?_
    ·
      exact zp_some hs
    ·
      refine zp_chk fun _ => ?_
      exact ih _ _ _ _ (FE.up (by decide) hs)
theorem xe_f_Arrays_fill_c7 {σ0 : zS} {N : Nat} {σ : zS} {x2 : Int32}  (hs : FE σ0 σ) : zp (zf_Arrays_fill_c7 N σ x2) (fun r => FE σ0 r) := by
  unfold zf_Arrays_fill_c7
  exact xe_b_Arrays_fill_c7_5  _ _ _ _ _ hs
theorem xe_f_Space_note_c1 {σ0 : zS} {N : Nat} {σ : zS} {x1 : Int32}  (hs : FE σ0 σ) : zp (zf_Space_note_c1 N σ x1) (fun r => FE σ0 r.2) := by
  unfold zf_Space_note_c1
  refine zp_bind fun r1 _ => ?_
  refine zp_chk fun _ => ?_
  refine zp_ite (fun _ => ?_) fun _ => ?_
  ·
    refine zp_ite (fun _ => ?_) fun _ => ?_
    ·
      exact zp_some hs
    ·
      refine zp_ite (fun _ => ?_) fun _ => ?_
      ·
        refine zp_chk fun _ => ?_
        refine zp_chk fun _ => ?_
        refine zp_chk fun _ => ?_
        exact zp_some (FE.up (by decide) (FE.up (by decide) (FE.up (by decide) (FE.cp (by decide) hs))))
      ·
        exact zp_some hs
  ·
    exact zp_some hs
theorem xe_b_Machine_load_c1_130 {σ0 : zS} {k34 : zS → Int32 → Option (zS)} {N : Nat} {σ : zS} {v3 : Int32} (hk34 : ∀ (y0 : zS) (y1 : Int32), FE σ0 y0 → zp (k34 y0 y1) (fun r => FE σ0 r)) (hs : FE σ0 σ) : zp (zb_Machine_load_c1_130 k34 N σ v3) (fun r => FE σ0 r) := by
  unfold zb_Machine_load_c1_130
  exact hk34 _ _ hs
theorem xe_b_Machine_load_c1_124 {σ0 : zS} {k95 : zS → Int32 → Int32 → Int32 → Option (zS)} {N : Nat} {σ : zS} {v3 : Int32} {v5 : Int32} {v6 : Int32} (hk95 : ∀ (y0 : zS) (y1 : Int32) (y2 : Int32) (y3 : Int32), FE σ0 y0 → zp (k95 y0 y1 y2 y3) (fun r => FE σ0 r)) (hs : FE σ0 σ) : zp (zb_Machine_load_c1_124 k95 N σ v3 v5 v6) (fun r => FE σ0 r) := by
  unfold zb_Machine_load_c1_124
  exact hk95 _ _ _ _ hs
theorem xe_b_Machine_load_c1_95 {σ0 : zS} {k34 : zS → Int32 → Option (zS)} {N : Nat} (hk34 : ∀ (y0 : zS) (y1 : Int32), FE σ0 y0 → zp (k34 y0 y1) (fun r => FE σ0 r)) : ∀ (n : Nat) (σ : zS) (v3 : Int32) (v5 : Int32) (v6 : Int32), FE σ0 σ → zp (zb_Machine_load_c1_95 k34 N n σ v3 v5 v6) (fun r => FE σ0 r) := by
  intro n
  induction n with
  | zero => intro _ _ _ _ _; exact zp_none
  | succ n ih =>
    intro σ v3 v5 v6 hs
    rw [zb_Machine_load_c1_95]
    refine zp_ite (fun _ => ?_) fun _ => ?_
    ·
      exact xe_b_Machine_load_c1_130 (hk34) hs
    ·
      refine zp_ite (fun _ => ?_) fun _ => ?_
      ·
        exact xe_b_Machine_load_c1_130 (hk34) hs
      ·
        refine zp_ite (fun _ => ?_) fun _ => ?_
        ·
          exact xe_b_Machine_load_c1_124 (ih) hs
        ·
          refine zp_chk fun _ => ?_
          exact xe_b_Machine_load_c1_124 (ih) (FE.up (by decide) hs)
theorem xe_b_Machine_load_c1_34 {σ0 : zS} {N : Nat}  : ∀ (n : Nat) (σ : zS) (v3 : Int32), FE σ0 σ → zp (zb_Machine_load_c1_34 N n σ v3) (fun r => FE σ0 r) := by
  intro n
  induction n with
  | zero => intro _ _ _; exact zp_none
  | succ n ih =>
    intro σ v3 hs
    rw [zb_Machine_load_c1_34]
    refine zp_ite (fun _ => ?_) fun _ => ?_
    ·
      exact zp_some hs
    ·
      refine zp_chk fun _ => ?_
      refine zp_chk fun _ => ?_
      refine zp_bind fun r8 _ => ?_
      refine zp_chk fun _ => ?_
      refine zp_bind fun r10 _ => ?_
      exact xe_b_Machine_load_c1_95 (ih) _ _ _ _ _ (FE.up (by decide) (FE.up (by decide) hs))
theorem xe_f_Machine_load_c1 {σ0 : zS} {N : Nat} {σ : zS} {x2 : Int32}  (hs : FE σ0 σ) : zp (zf_Machine_load_c1 N σ x2) (fun r => FE σ0 r) := by
  unfold zf_Machine_load_c1
  refine zp_ite (fun _ => ?_) fun _ => ?_
  ·
    exact zp_some hs
  ·
    refine zp_ite (fun _ => ?_) fun _ => ?_
    ·
      refine zp_chk fun _ => ?_
      refine zp_bind (zp_mono (xe_f_Arrays_fill_c4  (FE.cp (by decide) hs)) fun r4 hr4 => ?_)
      exact xe_b_Machine_load_c1_34  _ _ _ hr4
    ·
      exact zp_some hs
theorem xe_f_Space_load_c1 {σ0 : zS} {N : Nat} {σ : zS} {x1 : Int32}  (hs : FE σ0 σ) : zp (zf_Space_load_c1 N σ x1) (fun r => FE σ0 r) := by
  unfold zf_Space_load_c1
  refine zp_bind fun r1 _ => ?_
  refine zp_ite (fun _ => ?_) fun _ => ?_
  ·
    exact zp_some hs
  ·
    refine zp_bind (zp_mono (xe_f_Machine_load_c1  hs) fun r3 hr3 => ?_)
    exact zp_some hr3
theorem xe_b_Space_exploreFrom_c1_95 {σ0 : zS} {k20 : zS → Int32 → Int32 → Int32 → Int32 → Int32 → Option (Int32 × zS)} {N : Nat} {σ : zS} {v1 : Int32} {v2 : Int32} {v3 : Int32} {v4 : Int32} {v5 : Int32} (hk20 : ∀ (y0 : zS) (y1 : Int32) (y2 : Int32) (y3 : Int32) (y4 : Int32) (y5 : Int32), FE σ0 y0 → zp (k20 y0 y1 y2 y3 y4 y5) (fun r => FE σ0 r.2)) (hs : FE σ0 σ) : zp (zb_Space_exploreFrom_c1_95 k20 N σ v1 v2 v3 v4 v5) (fun r => FE σ0 r.2) := by
  unfold zb_Space_exploreFrom_c1_95
  exact hk20 _ _ _ _ _ _ hs
theorem xe_b_Space_exploreFrom_c1_48 {σ0 : zS} {k20 : zS → Int32 → Int32 → Int32 → Int32 → Int32 → Option (Int32 × zS)} {N : Nat} {σ : zS} {v1 : Int32} {v2 : Int32} {v3 : Int32} {v4 : Int32} {v5 : Int32} {s0 : Int32} (hk20 : ∀ (y0 : zS) (y1 : Int32) (y2 : Int32) (y3 : Int32) (y4 : Int32) (y5 : Int32), FE σ0 y0 → zp (k20 y0 y1 y2 y3 y4 y5) (fun r => FE σ0 r.2)) (hs : FE σ0 σ) : zp (zb_Space_exploreFrom_c1_48 k20 N σ v1 v2 v3 v4 v5 s0) (fun r => FE σ0 r.2) := by
  unfold zb_Space_exploreFrom_c1_48
  refine zp_ite (fun _ => ?_) fun _ => ?_
  ·
    exact xe_b_Space_exploreFrom_c1_95 (hk20) hs
  ·
    refine zp_bind fun r9 _ => ?_
    refine zp_ite (fun _ => ?_) fun _ => ?_
    ·
      exact xe_b_Space_exploreFrom_c1_95 (hk20) hs
    ·
      refine zp_bind (zp_mono (xe_f_Machine_move  hs) fun r11 hr11 => ?_)
      refine zp_bind (zp_mono (xe_f_Space_note_c1  hr11) fun r12 hr12 => ?_)
      refine zp_ite (fun _ => ?_) fun _ => ?_
      ·
        exact xe_b_Space_exploreFrom_c1_95 (hk20) hr12
      ·
        exact zp_some hr12
theorem xe_b_Space_exploreFrom_c1_43 {σ0 : zS} {k20 : zS → Int32 → Int32 → Int32 → Int32 → Int32 → Option (Int32 × zS)} {N : Nat} {σ : zS} {v1 : Int32} {v2 : Int32} {v3 : Int32} {v4 : Int32} {v5 : Int32} (hk20 : ∀ (y0 : zS) (y1 : Int32) (y2 : Int32) (y3 : Int32) (y4 : Int32) (y5 : Int32), FE σ0 y0 → zp (k20 y0 y1 y2 y3 y4 y5) (fun r => FE σ0 r.2)) (hs : FE σ0 σ) : zp (zb_Space_exploreFrom_c1_43 k20 N σ v1 v2 v3 v4 v5) (fun r => FE σ0 r.2) := by
  unfold zb_Space_exploreFrom_c1_43
  exact xe_b_Space_exploreFrom_c1_48 (hk20) hs
theorem xe_b_Space_exploreFrom_c1_20 {σ0 : zS} {N : Nat}  : ∀ (n : Nat) (σ : zS) (v1 : Int32) (v2 : Int32) (v3 : Int32) (v4 : Int32) (v5 : Int32), FE σ0 σ → zp (zb_Space_exploreFrom_c1_20 N n σ v1 v2 v3 v4 v5) (fun r => FE σ0 r.2) := by
  intro n
  induction n with
  | zero => intro _ _ _ _ _ _ _; exact zp_none
  | succ n ih =>
    intro σ v1 v2 v3 v4 v5 hs
    rw [zb_Space_exploreFrom_c1_20]
    refine zp_ite (fun _ => ?_) fun _ => ?_
    ·
      refine zp_bind fun r4 _ => ?_
      refine zp_ite (fun _ => ?_) fun _ => ?_
      ·
        exact zp_some hs
      ·
        refine zp_chk fun _ => ?_
        exact zp_some (FE.up (by decide) hs)
    ·
      refine zp_ite (fun _ => ?_) fun _ => ?_
      ·
        exact xe_b_Space_exploreFrom_c1_43 (ih) hs
      ·
        refine zp_ite (fun _ => ?_) fun _ => ?_
        ·
          exact xe_b_Space_exploreFrom_c1_48 (ih) hs
        ·
          exact xe_b_Space_exploreFrom_c1_43 (ih) hs
theorem xe_f_Space_exploreFrom_c1 {σ0 : zS} {N : Nat} {σ : zS} {x1 : Int32} {x2 : Int32}  (hs : FE σ0 σ) : zp (zf_Space_exploreFrom_c1 N σ x1 x2) (fun r => FE σ0 r.2) := by
  unfold zf_Space_exploreFrom_c1
  refine zp_bind (zp_mono (xe_f_Space_load_c1  hs) fun r1 hr1 => ?_)
  refine zp_bind fun r2 _ => ?_
  exact xe_b_Space_exploreFrom_c1_20  _ _ _ _ _ _ _ hr1
theorem xe_b_Space_explore_c1_28 {σ0 : zS} {N : Nat}  : ∀ (n : Nat) (σ : zS) (v1 : Int32) (v2 : Int32) (v3 : Int32), FE σ0 σ → zp (zb_Space_explore_c1_28 N n σ v1 v2 v3) (fun r => FE σ0 r.2) := by
  intro n
  induction n with
  | zero => intro _ _ _ _ _; exact zp_none
  | succ n ih =>
    intro σ v1 v2 v3 hs
    rw [zb_Space_explore_c1_28]
    refine zp_ite (fun _ => ?_) fun _ => ?_
    ·
      refine zp_chk fun _ => ?_
      exact zp_some hs
    ·
      refine zp_ite (fun _ => ?_) fun _ => ?_
      ·
        refine zp_chk fun _ => ?_
        exact zp_some hs
      ·
        refine zp_ite (fun _ => ?_) fun _ => ?_
        ·
          refine zp_chk fun _ => ?_
          exact zp_some hs
        ·
          refine zp_bind (zp_mono (xe_f_Space_exploreFrom_c1  hs) fun r10 hr10 => ?_)
          exact ih _ _ _ _ hr10
theorem xe_f_Space_explore_c1 {σ0 : zS} {N : Nat} {σ : zS} {x1 : Int32}  (hs : FE σ0 σ) : zp (zf_Space_explore_c1 N σ x1) (fun r => FE σ0 r.2) := by
  unfold zf_Space_explore_c1
  refine zp_bind (zp_mono (xe_f_Arrays_fill_c7  (FE.up (by decide) hs)) fun r1 hr1 => ?_)
  refine zp_bind (zp_mono (xe_f_Machine_setFirst  hr1) fun r2 hr2 => ?_)
  refine zp_bind (zp_mono (xe_f_Space_note_c1  hr2) fun r3 hr3 => ?_)
  exact xe_b_Space_explore_c1_28  _ _ _ _ _ hr3
theorem xe_f_Numbers_clear_c7 {σ0 : zS} {σ : zS}  (hs : FE σ0 σ) : zp (zf_Numbers_clear_c7 σ) (fun r => FE σ0 r) := by
  unfold zf_Numbers_clear_c7
  exact zp_some (FE.up (by decide) hs)
theorem xe_f_Numbers_clear_c8 {σ0 : zS} {σ : zS}  (hs : FE σ0 σ) : zp (zf_Numbers_clear_c8 σ) (fun r => FE σ0 r) := by
  unfold zf_Numbers_clear_c8
  exact zp_some (FE.up (by decide) hs)
theorem xe_b_Arrays_fill_c8_5 {σ0 : zS} {N : Nat}  : ∀ (n : Nat) (σ : zS) (v1 : Int32) (v2 : Int32) (v3 : Int32), FE σ0 σ → zp (zb_Arrays_fill_c8_5 N n σ v1 v2 v3) (fun r => FE σ0 r) := by
  intro n
  induction n with
  | zero => intro _ _ _ _ _; exact zp_none
  | succ n ih =>
    intro σ v1 v2 v3 hs
    rw [zb_Arrays_fill_c8_5]
    refine zp_ite (fun _ => ?_) fun _ => ?_
    ·
      exact zp_some hs
    ·
      refine zp_chk fun _ => ?_
      exact ih _ _ _ _ (FE.up (by decide) hs)
theorem xe_f_Arrays_fill_c8 {σ0 : zS} {N : Nat} {σ : zS} {x2 : Int32}  (hs : FE σ0 σ) : zp (zf_Arrays_fill_c8 N σ x2) (fun r => FE σ0 r) := by
  unfold zf_Arrays_fill_c8
  exact xe_b_Arrays_fill_c8_5  _ _ _ _ _ hs
theorem xe_f_Numbers_add_c7 {σ0 : zS} {σ : zS} {x1 : Int32}  (hs : FE σ0 σ) : zp (zf_Numbers_add_c7 σ x1) (fun r => FE σ0 r) := by
  unfold zf_Numbers_add_c7
  refine zp_ite (fun _ => ?_) fun _ => ?_
  ·
    exact zp_some hs
  ·
    refine zp_ite (fun _ => ?_) fun _ => ?_
    ·
      exact zp_some hs
    ·
      refine zp_chk fun _ => ?_
      exact zp_some (FE.up (by decide) (FE.up (by decide) hs))
theorem xe_f_Numbers_add_c8 {σ0 : zS} {σ : zS} {x1 : Int32}  (hs : FE σ0 σ) : zp (zf_Numbers_add_c8 σ x1) (fun r => FE σ0 r) := by
  unfold zf_Numbers_add_c8
  refine zp_ite (fun _ => ?_) fun _ => ?_
  ·
    exact zp_some hs
  ·
    refine zp_ite (fun _ => ?_) fun _ => ?_
    ·
      exact zp_some hs
    ·
      refine zp_chk fun _ => ?_
      exact zp_some (FE.up (by decide) (FE.up (by decide) hs))
theorem xe_f_Outcomes_note_c1 {σ0 : zS} {N : Nat} {σ : zS} {x1 : Int32} {x2 : Int32}  (hs : FE σ0 σ) : zp (zf_Outcomes_note_c1 N σ x1 x2) (fun r => FE σ0 r) := by
  unfold zf_Outcomes_note_c1
  refine zp_bind fun r1 _ => ?_
  refine zp_chk fun _ => ?_
  refine zp_ite (fun _ => ?_) fun _ => ?_
  ·
    exact zp_some hs
  ·
    refine zp_bind (zp_mono (xe_f_Numbers_add_c7  hs) fun r4 hr4 => ?_)
    refine zp_bind (zp_mono (xe_f_Numbers_add_c8  hr4) fun r5 hr5 => ?_)
    refine zp_chk fun _ => ?_
    exact zp_some (FE.up (by decide) hr5)
theorem xe_b_Outcomes_gather_c1_57 {σ0 : zS} {k24 : zS → Int32 → Option (zS)} {N : Nat} {σ : zS} {v2 : Int32} (hk24 : ∀ (y0 : zS) (y1 : Int32), FE σ0 y0 → zp (k24 y0 y1) (fun r => FE σ0 r)) (hs : FE σ0 σ) : zp (zb_Outcomes_gather_c1_57 k24 N σ v2) (fun r => FE σ0 r) := by
  unfold zb_Outcomes_gather_c1_57
  exact hk24 _ _ hs
theorem xe_b_Outcomes_gather_c1_24 {σ0 : zS} {N : Nat}  : ∀ (n : Nat) (σ : zS) (v2 : Int32), FE σ0 σ → zp (zb_Outcomes_gather_c1_24 N n σ v2) (fun r => FE σ0 r) := by
  intro n
  induction n with
  | zero => intro _ _ _; exact zp_none
  | succ n ih =>
    intro σ v2 hs
    rw [zb_Outcomes_gather_c1_24]
    refine zp_ite (fun _ => ?_) fun _ => ?_
    ·
      exact zp_some hs
    ·
      refine zp_bind fun r5 _ => ?_
      refine zp_ite (fun _ => ?_) fun _ => ?_
      ·
        exact xe_b_Outcomes_gather_c1_57 (ih) hs
      ·
        refine zp_bind (zp_mono (xe_f_Space_load_c1  hs) fun r7 hr7 => ?_)
        refine zp_bind fun r8 _ => ?_
        refine zp_bind (zp_mono (xe_f_Outcomes_note_c1  hr7) fun r9 hr9 => ?_)
        exact xe_b_Outcomes_gather_c1_57 (ih) hr9
theorem xe_f_Outcomes_gather_c1 {σ0 : zS} {N : Nat} {σ : zS}  (hs : FE σ0 σ) : zp (zf_Outcomes_gather_c1 N σ) (fun r => FE σ0 r) := by
  unfold zf_Outcomes_gather_c1
  refine zp_bind (zp_mono (xe_f_Numbers_clear_c7  hs) fun r1 hr1 => ?_)
  refine zp_bind (zp_mono (xe_f_Numbers_clear_c8  hr1) fun r2 hr2 => ?_)
  refine zp_bind (zp_mono (xe_f_Arrays_fill_c8  hr2) fun r3 hr3 => ?_)
  exact xe_b_Outcomes_gather_c1_24  _ _ _ hr3
theorem xe_b_X_whole_102 {σ0 : zS} {N : Nat} {σ : zS} {v1 : Int32}  (hs : FE σ0 σ) : zp (zb_X_whole_102 N σ v1) (fun r => FE σ0 r.2) := by
  unfold zb_X_whole_102
  refine zp_chk fun _ => ?_
  exact zp_some hs
theorem xe_b_X_whole_101 {σ0 : zS} {N : Nat} {σ : zS} {v1 : Int32} {s0 : Int32} {s1 : Int32}  (hs : FE σ0 σ) : zp (zb_X_whole_101 N σ v1 s0 s1) (fun r => FE σ0 r.2) := by
  unfold zb_X_whole_101
  refine zp_chk fun _ => ?_
  exact xe_b_X_whole_102  (FE.up (by decide) hs)
theorem xe_f_X_whole {σ0 : zS} {N : Nat} {σ : zS} {x1 : Int32}  (hs : FE σ0 σ) : zp (zf_X_whole N σ x1) (fun r => FE σ0 r.2) := by
  unfold zf_X_whole
  refine zp_ite (fun _ => ?_) fun _ => ?_
  ·
    refine zp_ite (fun _ => ?_) fun _ => ?_
    ·
      exact zp_some hs
    ·
      refine zp_ite (fun _ => ?_) fun _ => ?_
      ·
        exact zp_some hs
      ·
        refine zp_ite (fun _ => ?_) fun _ => ?_
        ·
          refine zp_chk fun _ => ?_
          refine zp_ite (fun _ => ?_) fun _ => ?_
          ·
            exact xe_b_X_whole_102  hs
          ·
            refine zp_chk fun _ => ?_
            refine zp_bind (zp_mono (xe_f_Space_explore_c1  (FE.up (by decide) hs)) fun r9 hr9 => ?_)
            refine zp_ite (fun _ => ?_) fun _ => ?_
            ·
              exact xe_b_X_whole_102  hr9
            ·
              refine zp_bind (zp_mono (xe_f_Outcomes_gather_c1  hr9) fun r11 hr11 => ?_)
              refine zp_bind fun r12 _ => ?_
              refine zp_ite (fun _ => ?_) fun _ => ?_
              ·
                exact xe_b_X_whole_101  hr11
              ·
                exact xe_b_X_whole_101  hr11
        ·
          exact zp_some hs
  ·
    exact zp_some hs
theorem xe_f_Numbers_clear_c9 {σ0 : zS} {σ : zS}  (hs : FE σ0 σ) : zp (zf_Numbers_clear_c9 σ) (fun r => FE σ0 r) := by
  unfold zf_Numbers_clear_c9
  exact zp_some (FE.up (by decide) hs)
theorem xe_f_Numbers_add_c9 {σ0 : zS} {σ : zS} {x1 : Int32}  (hs : FE σ0 σ) : zp (zf_Numbers_add_c9 σ x1) (fun r => FE σ0 r) := by
  unfold zf_Numbers_add_c9
  refine zp_ite (fun _ => ?_) fun _ => ?_
  ·
    exact zp_some hs
  ·
    refine zp_ite (fun _ => ?_) fun _ => ?_
    ·
      exact zp_some hs
    ·
      refine zp_chk fun _ => ?_
      exact zp_some (FE.up (by decide) (FE.up (by decide) hs))
theorem xe_b_Judge_listDoubts_66 {σ0 : zS} {k27 : zS → Int32 → Int32 → Int32 → Option (zS)} {N : Nat} {σ : zS} {v1 : Int32} {v2 : Int32} {v3 : Int32} (hk27 : ∀ (y0 : zS) (y1 : Int32) (y2 : Int32) (y3 : Int32), FE σ0 y0 → zp (k27 y0 y1 y2 y3) (fun r => FE σ0 r)) (hs : FE σ0 σ) : zp (zb_Judge_listDoubts_66 k27 N σ v1 v2 v3) (fun r => FE σ0 r) := by
  unfold zb_Judge_listDoubts_66
  exact hk27 _ _ _ _ hs
theorem xe_b_Judge_listDoubts_27 {σ0 : zS} {k9 : zS → Int32 → Option (zS)} {N : Nat} (hk9 : ∀ (y0 : zS) (y1 : Int32), FE σ0 y0 → zp (k9 y0 y1) (fun r => FE σ0 r)) : ∀ (n : Nat) (σ : zS) (v1 : Int32) (v2 : Int32) (v3 : Int32), FE σ0 σ → zp (zb_Judge_listDoubts_27 k9 N n σ v1 v2 v3) (fun r => FE σ0 r) := by
  intro n
  induction n with
  | zero => intro _ _ _ _ _; exact zp_none
  | succ n ih =>
    intro σ v1 v2 v3 hs
    rw [zb_Judge_listDoubts_27]
    refine zp_ite (fun _ => ?_) fun _ => ?_
    ·
      exact hk9 _ _ hs
    ·
      refine zp_bind fun r4 _ => ?_
      refine zp_ite (fun _ => ?_) fun _ => ?_
      ·
        exact xe_b_Judge_listDoubts_66 (ih) hs
      ·
        refine zp_bind (zp_mono (xe_f_Numbers_add_c9  hs) fun r6 hr6 => ?_)
        exact xe_b_Judge_listDoubts_66 (ih) hr6
theorem xe_b_Judge_listDoubts_9 {σ0 : zS} {N : Nat}  : ∀ (n : Nat) (σ : zS) (v1 : Int32), FE σ0 σ → zp (zb_Judge_listDoubts_9 N n σ v1) (fun r => FE σ0 r) := by
  intro n
  induction n with
  | zero => intro _ _ _; exact zp_none
  | succ n ih =>
    intro σ v1 hs
    rw [zb_Judge_listDoubts_9]
    refine zp_ite (fun _ => ?_) fun _ => ?_
    ·
      exact zp_some hs
    ·
      exact xe_b_Judge_listDoubts_27 (ih) _ _ _ _ _ hs
theorem xe_f_Judge_listDoubts {σ0 : zS} {N : Nat} {σ : zS}  (hs : FE σ0 σ) : zp (zf_Judge_listDoubts N σ) (fun r => FE σ0 r) := by
  unfold zf_Judge_listDoubts
  refine zp_bind (zp_mono (xe_f_Numbers_clear_c9  hs) fun r1 hr1 => ?_)
  exact xe_b_Judge_listDoubts_9  _ _ _ hr1
theorem xe_b_Judge_countRingsWith_116 {σ0 : zS} {kr : zS → Int32 → Int32 → Option (Int32 × zS)} {k6 : zS → Int32 → Int32 → Int32 → Int32 → Int32 → Int32 → Option (Int32 × zS)} {N : Nat} {σ : zS} {v1 : Int32} {v2 : Int32} {v3 : Int32} {v4 : Int32} {v5 : Int32} {v6 : Int32} (hkr : ∀ (y0 : zS) (y1 : Int32) (y2 : Int32), FE σ0 y0 → zp (kr y0 y1 y2) (fun r => FE σ0 r.2)) (hk6 : ∀ (y0 : zS) (y1 : Int32) (y2 : Int32) (y3 : Int32) (y4 : Int32) (y5 : Int32) (y6 : Int32), FE σ0 y0 → zp (k6 y0 y1 y2 y3 y4 y5 y6) (fun r => FE σ0 r.2)) (hs : FE σ0 σ) : zp (zb_Judge_countRingsWith_116 kr k6 N σ v1 v2 v3 v4 v5 v6) (fun r => FE σ0 r.2) := by
  unfold zb_Judge_countRingsWith_116
  exact hk6 _ _ _ _ _ _ _ hs
theorem xe_b_Judge_countRingsWith_6 {σ0 : zS} {kr : zS → Int32 → Int32 → Option (Int32 × zS)} {N : Nat} (hkr : ∀ (y0 : zS) (y1 : Int32) (y2 : Int32), FE σ0 y0 → zp (kr y0 y1 y2) (fun r => FE σ0 r.2)) : ∀ (n : Nat) (σ : zS) (v1 : Int32) (v2 : Int32) (v3 : Int32) (v4 : Int32) (v5 : Int32) (v6 : Int32), FE σ0 σ → zp (zb_Judge_countRingsWith_6 kr N n σ v1 v2 v3 v4 v5 v6) (fun r => FE σ0 r.2) := by
  intro n
  induction n with
  | zero => intro _ _ _ _ _ _ _ _; exact zp_none
  | succ n ih =>
    intro σ v1 v2 v3 v4 v5 v6 hs
    rw [zb_Judge_countRingsWith_6]
    refine zp_bind fun r1 _ => ?_
    refine zp_ite (fun _ => ?_) fun _ => ?_
    ·
      exact zp_some hs
    ·
      refine zp_ite (fun _ => ?_) fun _ => ?_
      ·
        exact zp_some hs
      ·
        refine zp_bind fun r4 _ => ?_
        refine zp_chk fun _ => ?_
        refine zp_chk fun _ => ?_
        refine zp_ite (fun _ => ?_) fun _ => ?_
        ·
          exact xe_b_Judge_countRingsWith_116 (hkr) (ih) hs
        ·
          refine zp_ite (fun _ => ?_) fun _ => ?_
          ·
            exact xe_b_Judge_countRingsWith_116 (hkr) (ih) hs
          ·
            refine zp_ite (fun _ => ?_) fun _ => ?_
            ·
              exact xe_b_Judge_countRingsWith_116 (hkr) (ih) hs
            ·
              refine zp_bind fun r10 _ => ?_
              refine zp_ite (fun _ => ?_) fun _ => ?_
              ·
                exact xe_b_Judge_countRingsWith_116 (hkr) (ih) hs
              ·
                refine zp_chk fun _ => ?_
                refine zp_bind (zp_mono (hkr _ _ _ (FE.up (by decide) hs)) fun r13 hr13 => ?_)
                exact xe_b_Judge_countRingsWith_116 (hkr) (ih) hr13
theorem xe_f_Judge_countRingsWith {σ0 : zS} {kr : zS → Int32 → Int32 → Option (Int32 × zS)} {N : Nat} {σ : zS} {x1 : Int32} {x2 : Int32} {x3 : Int32} {x4 : Int32} (hkr : ∀ (y0 : zS) (y1 : Int32) (y2 : Int32), FE σ0 y0 → zp (kr y0 y1 y2) (fun r => FE σ0 r.2)) (hs : FE σ0 σ) : zp (zf_Judge_countRingsWith kr N σ x1 x2 x3 x4) (fun r => FE σ0 r.2) := by
  unfold zf_Judge_countRingsWith
  exact xe_b_Judge_countRingsWith_6 (hkr) _ _ _ _ _ _ _ _ hs
theorem xe_b_Judge_countRingsFrom_69 {σ0 : zS} {kr : zS → Int32 → Int32 → Option (Int32 × zS)} {N : Nat} (hkr : ∀ (y0 : zS) (y1 : Int32) (y2 : Int32), FE σ0 y0 → zp (kr y0 y1 y2) (fun r => FE σ0 r.2)) : ∀ (n : Nat) (σ : zS) (v1 : Int32) (v2 : Int32) (v4 : Int32) (v5 : Int32) (v6 : Int32), FE σ0 σ → zp (zb_Judge_countRingsFrom_69 kr N n σ v1 v2 v4 v5 v6) (fun r => FE σ0 r.2) := by
  intro n
  induction n with
  | zero => intro _ _ _ _ _ _ _; exact zp_none
  | succ n ih =>
    intro σ v1 v2 v4 v5 v6 hs
    rw [zb_Judge_countRingsFrom_69]
    refine zp_ite (fun _ => ?_) fun _ => ?_
    ·
      exact zp_some hs
    ·
      refine zp_bind (zp_mono (xe_f_Judge_countRingsWith (hkr) hs) fun r7 hr7 => ?_)
      exact ih _ _ _ _ _ _ hr7
theorem xe_b_Judge_countRingsFrom_59 {σ0 : zS} {kr : zS → Int32 → Int32 → Option (Int32 × zS)} {N : Nat} {σ : zS} {v1 : Int32} {v2 : Int32} {v3 : Int32} {v4 : Int32} {s0 : Int32} (hkr : ∀ (y0 : zS) (y1 : Int32) (y2 : Int32), FE σ0 y0 → zp (kr y0 y1 y2) (fun r => FE σ0 r.2)) (hs : FE σ0 σ) : zp (zb_Judge_countRingsFrom_59 kr N σ v1 v2 v3 v4 s0) (fun r => FE σ0 r.2) := by
  unfold zb_Judge_countRingsFrom_59
  exact xe_b_Judge_countRingsFrom_69 (hkr) _ _ _ _ _ _ _ hs
theorem xe_f_Judge_countRingsFromB {σ0 : zS} {kr : zS → Int32 → Int32 → Option (Int32 × zS)} {N : Nat} {σ : zS} {x1 : Int32} {x2 : Int32} (hkr : ∀ (y0 : zS) (y1 : Int32) (y2 : Int32), FE σ0 y0 → zp (kr y0 y1 y2) (fun r => FE σ0 r.2)) (hs : FE σ0 σ) : zp (zf_Judge_countRingsFromB kr N σ x1 x2) (fun r => FE σ0 r.2) := by
  unfold zf_Judge_countRingsFromB
  refine zp_ite (fun _ => ?_) fun _ => ?_
  ·
    exact zp_some hs
  ·
    refine zp_ite (fun _ => ?_) fun _ => ?_
    ·
      refine zp_chk fun _ => ?_
      refine zp_chk fun _ => ?_
      refine zp_ite (fun _ => ?_) fun _ => ?_
      ·
        exact xe_b_Judge_countRingsFrom_59 (hkr) hs
      ·
        refine zp_chk fun _ => ?_
        exact xe_b_Judge_countRingsFrom_59 (hkr) hs
    ·
      exact zp_some hs
theorem xe_f_Judge_countRingsFrom {σ0 : zS} {N : Nat}  : ∀ (n : Nat) (σ : zS) (x1 : Int32) (x2 : Int32), FE σ0 σ → zp (zf_Judge_countRingsFrom N n σ x1 x2) (fun r => FE σ0 r.2) := by
  intro n
  induction n with
  | zero => intro _ _ _ _; exact zp_none
  | succ n ih =>
    intro σ x1 x2 hs
    rw [zf_Judge_countRingsFrom]
    exact xe_f_Judge_countRingsFromB (ih) hs
theorem xe_b_Judge_countRings_63 {σ0 : zS} {k4 : zS → Int32 → Int32 → Option (Int32 × zS)} {N : Nat} {σ : zS} {v1 : Int32} {v2 : Int32} (hk4 : ∀ (y0 : zS) (y1 : Int32) (y2 : Int32), FE σ0 y0 → zp (k4 y0 y1 y2) (fun r => FE σ0 r.2)) (hs : FE σ0 σ) : zp (zb_Judge_countRings_63 k4 N σ v1 v2) (fun r => FE σ0 r.2) := by
  unfold zb_Judge_countRings_63
  exact hk4 _ _ _ hs
theorem xe_b_Judge_countRings_4 {σ0 : zS} {N : Nat}  : ∀ (n : Nat) (σ : zS) (v1 : Int32) (v2 : Int32), FE σ0 σ → zp (zb_Judge_countRings_4 N n σ v1 v2) (fun r => FE σ0 r.2) := by
  intro n
  induction n with
  | zero => intro _ _ _ _; exact zp_none
  | succ n ih =>
    intro σ v1 v2 hs
    rw [zb_Judge_countRings_4]
    refine zp_ite (fun _ => ?_) fun _ => ?_
    ·
      exact zp_some hs
    ·
      refine zp_bind fun r2 _ => ?_
      refine zp_chk fun _ => ?_
      refine zp_ite (fun _ => ?_) fun _ => ?_
      ·
        exact xe_b_Judge_countRings_63 (ih) hs
      ·
        refine zp_chk fun _ => ?_
        refine zp_bind (zp_mono (xe_f_Judge_countRingsFrom  _ _ _ _ (FE.up (by decide) hs)) fun r6 hr6 => ?_)
        exact xe_b_Judge_countRings_63 (ih) hr6
theorem xe_f_Judge_countRings {σ0 : zS} {N : Nat} {σ : zS}  (hs : FE σ0 σ) : zp (zf_Judge_countRings N σ) (fun r => FE σ0 r.2) := by
  unfold zf_Judge_countRings
  exact xe_b_Judge_countRings_4  _ _ _ _ hs
theorem xe_b_Judge_prepare_14 {σ0 : zS} {N : Nat}  : ∀ (n : Nat) (σ : zS) (v1 : Int32), FE σ0 σ → zp (zb_Judge_prepare_14 N n σ v1) (fun r => FE σ0 r) := by
  intro n
  induction n with
  | zero => intro _ _ _; exact zp_none
  | succ n ih =>
    intro σ v1 hs
    rw [zb_Judge_prepare_14]
    refine zp_ite (fun _ => ?_) fun _ => ?_
    ·
      refine zp_bind (zp_mono (xe_f_Judge_listDoubts  hs) fun r3 hr3 => ?_)
      refine zp_bind (zp_mono (xe_f_Judge_countRings  hr3) fun r4 hr4 => ?_)
      exact zp_some (FE.up (by decide) hr4)
    ·
      refine zp_bind fun r5 _ => ?_
      refine zp_chk fun _ => ?_
      exact ih _ _ (FE.up (by decide) hs)
theorem xe_f_Judge_prepare {σ0 : zS} {N : Nat} {σ : zS}  (hs : FE σ0 σ) : zp (zf_Judge_prepare N σ) (fun r => FE σ0 r) := by
  unfold zf_Judge_prepare
  refine zp_ite (fun _ => ?_) fun _ => ?_
  ·
    exact zp_some hs
  ·
    exact xe_b_Judge_prepare_14  _ _ _ (FE.up (by decide) hs)
theorem xe_f_X_doubts {σ0 : zS} {N : Nat} {σ : zS}  (hs : FE σ0 σ) : zp (zf_X_doubts N σ) (fun r => FE σ0 r.2) := by
  unfold zf_X_doubts
  refine zp_ite (fun _ => ?_) fun _ => ?_
  ·
    refine zp_bind (zp_mono (xe_f_Judge_prepare  hs) fun r2 hr2 => ?_)
    exact zp_some hr2
  ·
    exact zp_some hs
theorem xe_f_X_doubt {σ0 : zS} {N : Nat} {σ : zS} {x1 : Int32} {x2 : Int32}  (hs : FE σ0 σ) : zp (zf_X_doubt N σ x1 x2) (fun r => FE σ0 r.2) := by
  unfold zf_X_doubt
  refine zp_ite (fun _ => ?_) fun _ => ?_
  ·
    refine zp_bind (zp_mono (xe_f_Judge_prepare  hs) fun r2 hr2 => ?_)
    refine zp_bind fun r3 _ => ?_
    refine zp_bind fun r4 _ => ?_
    exact zp_some hr2
  ·
    exact zp_some hs
theorem xe_f_X_meet {σ0 : zS} {N : Nat} {σ : zS} {x1 : Int32} {x2 : Int32} {x3 : Int32} {x4 : Int32}  (hs : FE σ0 σ) : zp (zf_X_meet N σ x1 x2 x3 x4) (fun r => FE σ0 r.2) := by
  unfold zf_X_meet
  refine zp_ite (fun _ => ?_) fun _ => ?_
  ·
    refine zp_ite (fun _ => ?_) fun _ => ?_
    ·
      exact zp_some hs
    ·
      refine zp_bind fun r3 _ => ?_
      refine zp_ite (fun _ => ?_) fun _ => ?_
      ·
        exact zp_some hs
      ·
        refine zp_bind fun r5 _ => ?_
        refine zp_ite (fun _ => ?_) fun _ => ?_
        ·
          refine zp_bind (zp_mono (xe_f_Judge_prepare  hs) fun r7 hr7 => ?_)
          refine zp_bind fun r8 _ => ?_
          refine zp_ite (fun _ => ?_) fun _ => ?_
          ·
            exact zp_some hr7
          ·
            exact zp_some hr7
        ·
          exact zp_some hs
  ·
    exact zp_some hs
theorem xe_f_X_rings {σ0 : zS} {N : Nat} {σ : zS}  (hs : FE σ0 σ) : zp (zf_X_rings N σ) (fun r => FE σ0 r.2) := by
  unfold zf_X_rings
  refine zp_ite (fun _ => ?_) fun _ => ?_
  ·
    refine zp_bind (zp_mono (xe_f_Judge_prepare  hs) fun r2 hr2 => ?_)
    exact zp_some hr2
  ·
    exact zp_some hs
theorem xg_b_Arrays_fill_c4_5 {σ0 : zS} {N : Nat}  : ∀ (n : Nat) (σ : zS) (v1 : Int32) (v2 : Int32) (v3 : Int32), FGA σ0 σ → zp (zb_Arrays_fill_c4_5 N n σ v1 v2 v3) (fun r => FGA σ0 r) := by
  intro n
  induction n with
  | zero => intro _ _ _ _ _; exact zp_none
  | succ n ih =>
    intro σ v1 v2 v3 hs
    rw [zb_Arrays_fill_c4_5]
    refine zp_ite (fun _ => ?_) fun _ => ?_
    ·
      exact zp_some hs
    ·
      refine zp_chk fun _ => ?_
      exact ih _ _ _ _ (FGA.up (by decide) hs)
theorem xg_f_Arrays_fill_c4 {σ0 : zS} {N : Nat} {σ : zS} {x2 : Int32}  (hs : FGA σ0 σ) : zp (zf_Arrays_fill_c4 N σ x2) (fun r => FGA σ0 r) := by
  unfold zf_Arrays_fill_c4
  exact xg_b_Arrays_fill_c4_5  _ _ _ _ _ hs
theorem xg_b_Machine_load_130 {σ0 : zS} {k34 : zS → Int32 → Option (zS)} {N : Nat} {σ : zS} {v3 : Int32} (hk34 : ∀ (y0 : zS) (y1 : Int32), FGA σ0 y0 → zp (k34 y0 y1) (fun r => FGA σ0 r)) (hs : FGA σ0 σ) : zp (zb_Machine_load_130 k34 N σ v3) (fun r => FGA σ0 r) := by
  unfold zb_Machine_load_130
  exact hk34 _ _ hs
theorem xg_b_Machine_load_124 {σ0 : zS} {k95 : zS → Int32 → Int32 → Int32 → Option (zS)} {N : Nat} {σ : zS} {v3 : Int32} {v5 : Int32} {v6 : Int32} (hk95 : ∀ (y0 : zS) (y1 : Int32) (y2 : Int32) (y3 : Int32), FGA σ0 y0 → zp (k95 y0 y1 y2 y3) (fun r => FGA σ0 r)) (hs : FGA σ0 σ) : zp (zb_Machine_load_124 k95 N σ v3 v5 v6) (fun r => FGA σ0 r) := by
  unfold zb_Machine_load_124
  exact hk95 _ _ _ _ hs
theorem xg_b_Machine_load_95 {σ0 : zS} {k34 : zS → Int32 → Option (zS)} {N : Nat} (hk34 : ∀ (y0 : zS) (y1 : Int32), FGA σ0 y0 → zp (k34 y0 y1) (fun r => FGA σ0 r)) : ∀ (n : Nat) (σ : zS) (v3 : Int32) (v5 : Int32) (v6 : Int32), FGA σ0 σ → zp (zb_Machine_load_95 k34 N n σ v3 v5 v6) (fun r => FGA σ0 r) := by
  intro n
  induction n with
  | zero => intro _ _ _ _ _; exact zp_none
  | succ n ih =>
    intro σ v3 v5 v6 hs
    rw [zb_Machine_load_95]
    refine zp_ite (fun _ => ?_) fun _ => ?_
    ·
      exact xg_b_Machine_load_130 (hk34) hs
    ·
      refine zp_ite (fun _ => ?_) fun _ => ?_
      ·
        exact xg_b_Machine_load_130 (hk34) hs
      ·
        refine zp_ite (fun _ => ?_) fun _ => ?_
        ·
          exact xg_b_Machine_load_124 (ih) hs
        ·
          refine zp_chk fun _ => ?_
          exact xg_b_Machine_load_124 (ih) (FGA.up (by decide) hs)
theorem xg_b_Machine_load_34 {σ0 : zS} {N : Nat}  : ∀ (n : Nat) (σ : zS) (v3 : Int32), FGA σ0 σ → zp (zb_Machine_load_34 N n σ v3) (fun r => FGA σ0 r) := by
  intro n
  induction n with
  | zero => intro _ _ _; exact zp_none
  | succ n ih =>
    intro σ v3 hs
    rw [zb_Machine_load_34]
    refine zp_ite (fun _ => ?_) fun _ => ?_
    ·
      exact zp_some hs
    ·
      refine zp_chk fun _ => ?_
      refine zp_chk fun _ => ?_
      refine zp_bind fun r8 _ => ?_
      refine zp_chk fun _ => ?_
      refine zp_bind fun r10 _ => ?_
      exact xg_b_Machine_load_95 (ih) _ _ _ _ _ (FGA.up (by decide) (FGA.up (by decide) hs))
theorem xg_f_Machine_load {σ0 : zS} {N : Nat} {σ : zS} {x2 : Int32}  (hs : FGA σ0 σ) : zp (zf_Machine_load N σ x2) (fun r => FGA σ0 r) := by
  unfold zf_Machine_load
  refine zp_ite (fun _ => ?_) fun _ => ?_
  ·
    exact zp_some hs
  ·
    refine zp_ite (fun _ => ?_) fun _ => ?_
    ·
      refine zp_chk fun _ => ?_
      refine zp_bind (zp_mono (xg_f_Arrays_fill_c4  (FGA.cp (by decide) hs)) fun r4 hr4 => ?_)
      exact xg_b_Machine_load_34  _ _ _ hr4
    ·
      exact zp_some hs
theorem xg_f_Space_load {σ0 : zS} {N : Nat} {σ : zS} {x1 : Int32}  (hs : FGA σ0 σ) : zp (zf_Space_load N σ x1) (fun r => FGA σ0 r) := by
  unfold zf_Space_load
  refine zp_bind fun r1 _ => ?_
  refine zp_ite (fun _ => ?_) fun _ => ?_
  ·
    exact zp_some hs
  ·
    refine zp_bind (zp_mono (xg_f_Machine_load  hs) fun r3 hr3 => ?_)
    exact zp_some hr3
theorem xg_f_Numbers_clear {σ0 : zS} {σ : zS}  (hs : FGA σ0 σ) : zp (zf_Numbers_clear σ) (fun r => FGA σ0 r) := by
  unfold zf_Numbers_clear
  exact zp_some (FGA.up (by decide) hs)
theorem xg_f_Numbers_clear_c1 {σ0 : zS} {σ : zS}  (hs : FGA σ0 σ) : zp (zf_Numbers_clear_c1 σ) (fun r => FGA σ0 r) := by
  unfold zf_Numbers_clear_c1
  exact zp_some (FGA.up (by decide) hs)
theorem xg_f_Numbers_clear_c2 {σ0 : zS} {σ : zS}  (hs : FGA σ0 σ) : zp (zf_Numbers_clear_c2 σ) (fun r => FGA σ0 r) := by
  unfold zf_Numbers_clear_c2
  exact zp_some (FGA.up (by decide) hs)
theorem xg_b_Arrays_fill_c5_5 {σ0 : zS} {N : Nat}  : ∀ (n : Nat) (σ : zS) (v1 : Int32) (v2 : Int32) (v3 : Int32), FGA σ0 σ → zp (zb_Arrays_fill_c5_5 N n σ v1 v2 v3) (fun r => FGA σ0 r) := by
  intro n
  induction n with
  | zero => intro _ _ _ _ _; exact zp_none
  | succ n ih =>
    intro σ v1 v2 v3 hs
    rw [zb_Arrays_fill_c5_5]
    refine zp_ite (fun _ => ?_) fun _ => ?_
    ·
      exact zp_some hs
    ·
      refine zp_chk fun _ => ?_
      exact ih _ _ _ _ (FGA.up (by decide) hs)
theorem xg_f_Arrays_fill_c5 {σ0 : zS} {N : Nat} {σ : zS} {x2 : Int32}  (hs : FGA σ0 σ) : zp (zf_Arrays_fill_c5 N σ x2) (fun r => FGA σ0 r) := by
  unfold zf_Arrays_fill_c5
  exact xg_b_Arrays_fill_c5_5  _ _ _ _ _ hs
theorem xg_f_Numbers_clear_c3 {σ0 : zS} {σ : zS}  (hs : FGA σ0 σ) : zp (zf_Numbers_clear_c3 σ) (fun r => FGA σ0 r) := by
  unfold zf_Numbers_clear_c3
  exact zp_some (FGA.up (by decide) hs)
theorem xg_f_Numbers_clear_c4 {σ0 : zS} {σ : zS}  (hs : FGA σ0 σ) : zp (zf_Numbers_clear_c4 σ) (fun r => FGA σ0 r) := by
  unfold zf_Numbers_clear_c4
  exact zp_some (FGA.up (by decide) hs)
theorem xg_f_Numbers_add {σ0 : zS} {σ : zS} {x1 : Int32}  (hs : FGA σ0 σ) : zp (zf_Numbers_add σ x1) (fun r => FGA σ0 r) := by
  unfold zf_Numbers_add
  refine zp_ite (fun _ => ?_) fun _ => ?_
  ·
    exact zp_some hs
  ·
    refine zp_ite (fun _ => ?_) fun _ => ?_
    ·
      exact zp_some hs
    ·
      refine zp_chk fun _ => ?_
      exact zp_some (FGA.up (by decide) (FGA.up (by decide) hs))
theorem xg_f_Numbers_add_c1 {σ0 : zS} {σ : zS} {x1 : Int32}  (hs : FGA σ0 σ) : zp (zf_Numbers_add_c1 σ x1) (fun r => FGA σ0 r) := by
  unfold zf_Numbers_add_c1
  refine zp_ite (fun _ => ?_) fun _ => ?_
  ·
    exact zp_some hs
  ·
    refine zp_ite (fun _ => ?_) fun _ => ?_
    ·
      exact zp_some hs
    ·
      refine zp_chk fun _ => ?_
      exact zp_some (FGA.up (by decide) (FGA.up (by decide) hs))
theorem xg_b_Findings_listRaces_56 {σ0 : zS} {k16 : zS → Int32 → Option (zS)} {N : Nat} {σ : zS} {v1 : Int32} (hk16 : ∀ (y0 : zS) (y1 : Int32), FGA σ0 y0 → zp (k16 y0 y1) (fun r => FGA σ0 r)) (hs : FGA σ0 σ) : zp (zb_Findings_listRaces_56 k16 N σ v1) (fun r => FGA σ0 r) := by
  unfold zb_Findings_listRaces_56
  exact hk16 _ _ hs
theorem xg_b_Findings_listRaces_16 {σ0 : zS} {N : Nat}  : ∀ (n : Nat) (σ : zS) (v1 : Int32), FGA σ0 σ → zp (zb_Findings_listRaces_16 N n σ v1) (fun r => FGA σ0 r) := by
  intro n
  induction n with
  | zero => intro _ _ _; exact zp_none
  | succ n ih =>
    intro σ v1 hs
    rw [zb_Findings_listRaces_16]
    refine zp_ite (fun _ => ?_) fun _ => ?_
    ·
      exact zp_some hs
    ·
      refine zp_chk fun _ => ?_
      refine zp_ite (fun _ => ?_) fun _ => ?_
      ·
        exact xg_b_Findings_listRaces_56 (ih) hs
      ·
        refine zp_bind (zp_mono (xg_f_Numbers_add  hs) fun r6 hr6 => ?_)
        refine zp_chk fun _ => ?_
        refine zp_bind (zp_mono (xg_f_Numbers_add_c1  hr6) fun r8 hr8 => ?_)
        exact xg_b_Findings_listRaces_56 (ih) hr8
theorem xg_f_Findings_listRaces {σ0 : zS} {N : Nat} {σ : zS}  (hs : FGA σ0 σ) : zp (zf_Findings_listRaces N σ) (fun r => FGA σ0 r) := by
  unfold zf_Findings_listRaces
  refine zp_bind (zp_mono (xg_f_Numbers_clear_c3  hs) fun r1 hr1 => ?_)
  refine zp_bind (zp_mono (xg_f_Numbers_clear_c4  hr1) fun r2 hr2 => ?_)
  exact xg_b_Findings_listRaces_16  _ _ _ hr2
theorem xg_f_Numbers_clear_c5 {σ0 : zS} {σ : zS}  (hs : FGA σ0 σ) : zp (zf_Numbers_clear_c5 σ) (fun r => FGA σ0 r) := by
  unfold zf_Numbers_clear_c5
  exact zp_some (FGA.up (by decide) hs)
theorem xg_f_Numbers_clear_c6 {σ0 : zS} {σ : zS}  (hs : FGA σ0 σ) : zp (zf_Numbers_clear_c6 σ) (fun r => FGA σ0 r) := by
  unfold zf_Numbers_clear_c6
  exact zp_some (FGA.up (by decide) hs)
theorem xg_b_Arrays_fill_c6_5 {σ0 : zS} {N : Nat}  : ∀ (n : Nat) (σ : zS) (v1 : Int32) (v2 : Int32) (v3 : Int32), FGA σ0 σ → zp (zb_Arrays_fill_c6_5 N n σ v1 v2 v3) (fun r => FGA σ0 r) := by
  intro n
  induction n with
  | zero => intro _ _ _ _ _; exact zp_none
  | succ n ih =>
    intro σ v1 v2 v3 hs
    rw [zb_Arrays_fill_c6_5]
    refine zp_ite (fun _ => ?_) fun _ => ?_
    ·
      exact zp_some hs
    ·
      refine zp_chk fun _ => ?_
      exact ih _ _ _ _ (FGA.up (by decide) hs)
theorem xg_f_Arrays_fill_c6 {σ0 : zS} {N : Nat} {σ : zS} {x2 : Int32}  (hs : FGA σ0 σ) : zp (zf_Arrays_fill_c6 N σ x2) (fun r => FGA σ0 r) := by
  unfold zf_Arrays_fill_c6
  exact xg_b_Arrays_fill_c6_5  _ _ _ _ _ hs
theorem xg_f_Numbers_add_c2 {σ0 : zS} {σ : zS} {x1 : Int32}  (hs : FGA σ0 σ) : zp (zf_Numbers_add_c2 σ x1) (fun r => FGA σ0 r) := by
  unfold zf_Numbers_add_c2
  refine zp_ite (fun _ => ?_) fun _ => ?_
  ·
    exact zp_some hs
  ·
    refine zp_ite (fun _ => ?_) fun _ => ?_
    ·
      exact zp_some hs
    ·
      refine zp_chk fun _ => ?_
      exact zp_some (FGA.up (by decide) (FGA.up (by decide) hs))
theorem xg_f_Numbers_add_c3 {σ0 : zS} {σ : zS} {x1 : Int32}  (hs : FGA σ0 σ) : zp (zf_Numbers_add_c3 σ x1) (fun r => FGA σ0 r) := by
  unfold zf_Numbers_add_c3
  refine zp_ite (fun _ => ?_) fun _ => ?_
  ·
    exact zp_some hs
  ·
    refine zp_ite (fun _ => ?_) fun _ => ?_
    ·
      exact zp_some hs
    ·
      refine zp_chk fun _ => ?_
      exact zp_some (FGA.up (by decide) (FGA.up (by decide) hs))
theorem xg_f_Outcomes_note {σ0 : zS} {N : Nat} {σ : zS} {x1 : Int32} {x2 : Int32}  (hs : FGA σ0 σ) : zp (zf_Outcomes_note N σ x1 x2) (fun r => FGA σ0 r) := by
  unfold zf_Outcomes_note
  refine zp_bind fun r1 _ => ?_
  refine zp_chk fun _ => ?_
  refine zp_ite (fun _ => ?_) fun _ => ?_
  ·
    exact zp_some hs
  ·
    refine zp_bind (zp_mono (xg_f_Numbers_add_c2  hs) fun r4 hr4 => ?_)
    refine zp_bind (zp_mono (xg_f_Numbers_add_c3  hr4) fun r5 hr5 => ?_)
    refine zp_chk fun _ => ?_
    exact zp_some (FGA.up (by decide) hr5)
theorem xg_b_Outcomes_gather_57 {σ0 : zS} {k24 : zS → Int32 → Option (zS)} {N : Nat} {σ : zS} {v2 : Int32} (hk24 : ∀ (y0 : zS) (y1 : Int32), FGA σ0 y0 → zp (k24 y0 y1) (fun r => FGA σ0 r)) (hs : FGA σ0 σ) : zp (zb_Outcomes_gather_57 k24 N σ v2) (fun r => FGA σ0 r) := by
  unfold zb_Outcomes_gather_57
  exact hk24 _ _ hs
theorem xg_b_Outcomes_gather_24 {σ0 : zS} {N : Nat}  : ∀ (n : Nat) (σ : zS) (v2 : Int32), FGA σ0 σ → zp (zb_Outcomes_gather_24 N n σ v2) (fun r => FGA σ0 r) := by
  intro n
  induction n with
  | zero => intro _ _ _; exact zp_none
  | succ n ih =>
    intro σ v2 hs
    rw [zb_Outcomes_gather_24]
    refine zp_ite (fun _ => ?_) fun _ => ?_
    ·
      exact zp_some hs
    ·
      refine zp_bind fun r5 _ => ?_
      refine zp_ite (fun _ => ?_) fun _ => ?_
      ·
        exact xg_b_Outcomes_gather_57 (ih) hs
      ·
        refine zp_bind (zp_mono (xg_f_Space_load  hs) fun r7 hr7 => ?_)
        refine zp_bind fun r8 _ => ?_
        refine zp_bind (zp_mono (xg_f_Outcomes_note  hr7) fun r9 hr9 => ?_)
        exact xg_b_Outcomes_gather_57 (ih) hr9
theorem xg_f_Outcomes_gather {σ0 : zS} {N : Nat} {σ : zS}  (hs : FGA σ0 σ) : zp (zf_Outcomes_gather N σ) (fun r => FGA σ0 r) := by
  unfold zf_Outcomes_gather
  refine zp_bind (zp_mono (xg_f_Numbers_clear_c5  hs) fun r1 hr1 => ?_)
  refine zp_bind (zp_mono (xg_f_Numbers_clear_c6  hr1) fun r2 hr2 => ?_)
  refine zp_bind (zp_mono (xg_f_Arrays_fill_c6  hr2) fun r3 hr3 => ?_)
  exact xg_b_Outcomes_gather_24  _ _ _ hr3
theorem xg_f_Findings_noteRace {σ0 : zS} {σ : zS} {x1 : Int32} {x2 : Int32} {x3 : Int32}  (hs : FGA σ0 σ) : zp (zf_Findings_noteRace σ x1 x2 x3) (fun r => FGA σ0 r) := by
  unfold zf_Findings_noteRace
  refine zp_bind fun r1 _ => ?_
  refine zp_ite (fun _ => ?_) fun _ => ?_
  ·
    exact zp_some hs
  ·
    refine zp_ite (fun _ => ?_) fun _ => ?_
    ·
      exact zp_some hs
    ·
      refine zp_ite (fun _ => ?_) fun _ => ?_
      ·
        exact zp_some hs
      ·
        refine zp_chk fun _ => ?_
        refine zp_ite (fun _ => ?_) fun _ => ?_
        ·
          exact zp_some hs
        ·
          refine zp_chk fun _ => ?_
          exact zp_some (FGA.up (by decide) hs)
theorem xg_b_Findings_noteRaces_83 {σ0 : zS} {k17 : zS → Int32 → Int32 → Int32 → Option (zS)} {N : Nat} {σ : zS} {v1 : Int32} {v2 : Int32} {v3 : Int32} (hk17 : ∀ (y0 : zS) (y1 : Int32) (y2 : Int32) (y3 : Int32), FGA σ0 y0 → zp (k17 y0 y1 y2 y3) (fun r => FGA σ0 r)) (hs : FGA σ0 σ) : zp (zb_Findings_noteRaces_83 k17 N σ v1 v2 v3) (fun r => FGA σ0 r) := by
  unfold zb_Findings_noteRaces_83
  exact hk17 _ _ _ _ hs
theorem xg_b_Findings_noteRaces_17 {σ0 : zS} {k2 : zS → Int32 → Int32 → Option (zS)} {N : Nat} (hk2 : ∀ (y0 : zS) (y1 : Int32) (y2 : Int32), FGA σ0 y0 → zp (k2 y0 y1 y2) (fun r => FGA σ0 r)) : ∀ (n : Nat) (σ : zS) (v1 : Int32) (v2 : Int32) (v3 : Int32), FGA σ0 σ → zp (zb_Findings_noteRaces_17 k2 N n σ v1 v2 v3) (fun r => FGA σ0 r) := by
  intro n
  induction n with
  | zero => intro _ _ _ _ _; exact zp_none
  | succ n ih =>
    intro σ v1 v2 v3 hs
    rw [zb_Findings_noteRaces_17]
    refine zp_ite (fun _ => ?_) fun _ => ?_
    ·
      exact hk2 _ _ _ hs
    ·
      refine zp_bind fun r3 _ => ?_
      refine zp_ite (fun _ => ?_) fun _ => ?_
      ·
        exact xg_b_Findings_noteRaces_83 (ih) hs
      ·
        refine zp_bind fun r5 _ => ?_
        refine zp_ite (fun _ => ?_) fun _ => ?_
        ·
          exact xg_b_Findings_noteRaces_83 (ih) hs
        ·
          refine zp_bind fun r7 _ => ?_
          refine zp_bind fun r8 _ => ?_
          refine zp_bind (zp_mono (xg_f_Findings_noteRace  hs) fun r9 hr9 => ?_)
          exact xg_b_Findings_noteRaces_83 (ih) hr9
theorem xg_b_Findings_noteRaces_2 {σ0 : zS} {N : Nat}  : ∀ (n : Nat) (σ : zS) (v1 : Int32) (v2 : Int32), FGA σ0 σ → zp (zb_Findings_noteRaces_2 N n σ v1 v2) (fun r => FGA σ0 r) := by
  intro n
  induction n with
  | zero => intro _ _ _ _; exact zp_none
  | succ n ih =>
    intro σ v1 v2 hs
    rw [zb_Findings_noteRaces_2]
    refine zp_ite (fun _ => ?_) fun _ => ?_
    ·
      exact zp_some hs
    ·
      exact xg_b_Findings_noteRaces_17 (ih) _ _ _ _ _ hs
theorem xg_f_Findings_noteRaces {σ0 : zS} {N : Nat} {σ : zS} {x1 : Int32}  (hs : FGA σ0 σ) : zp (zf_Findings_noteRaces N σ x1) (fun r => FGA σ0 r) := by
  unfold zf_Findings_noteRaces
  exact xg_b_Findings_noteRaces_2  _ _ _ _ hs
theorem xg_f_Numbers_add_c4 {σ0 : zS} {σ : zS} {x1 : Int32}  (hs : FGA σ0 σ) : zp (zf_Numbers_add_c4 σ x1) (fun r => FGA σ0 r) := by
  unfold zf_Numbers_add_c4
  refine zp_ite (fun _ => ?_) fun _ => ?_
  ·
    exact zp_some hs
  ·
    refine zp_ite (fun _ => ?_) fun _ => ?_
    ·
      exact zp_some hs
    ·
      refine zp_chk fun _ => ?_
      exact zp_some (FGA.up (by decide) (FGA.up (by decide) hs))
theorem xg_f_Numbers_add_c5 {σ0 : zS} {σ : zS} {x1 : Int32}  (hs : FGA σ0 σ) : zp (zf_Numbers_add_c5 σ x1) (fun r => FGA σ0 r) := by
  unfold zf_Numbers_add_c5
  refine zp_ite (fun _ => ?_) fun _ => ?_
  ·
    exact zp_some hs
  ·
    refine zp_ite (fun _ => ?_) fun _ => ?_
    ·
      exact zp_some hs
    ·
      refine zp_chk fun _ => ?_
      exact zp_some (FGA.up (by decide) (FGA.up (by decide) hs))
theorem xg_f_Numbers_add_c6 {σ0 : zS} {σ : zS} {x1 : Int32}  (hs : FGA σ0 σ) : zp (zf_Numbers_add_c6 σ x1) (fun r => FGA σ0 r) := by
  unfold zf_Numbers_add_c6
  refine zp_ite (fun _ => ?_) fun _ => ?_
  ·
    exact zp_some hs
  ·
    refine zp_ite (fun _ => ?_) fun _ => ?_
    ·
      exact zp_some hs
    ·
      refine zp_chk fun _ => ?_
      exact zp_some (FGA.up (by decide) (FGA.up (by decide) hs))
theorem xg_b_Findings_gather_97 {σ0 : zS} {k31 : zS → Int32 → Option (zS)} {N : Nat} {σ : zS} {v2 : Int32} (hk31 : ∀ (y0 : zS) (y1 : Int32), FGA σ0 y0 → zp (k31 y0 y1) (fun r => FGA σ0 r)) (hs : FGA σ0 σ) : zp (zb_Findings_gather_97 k31 N σ v2) (fun r => FGA σ0 r) := by
  unfold zb_Findings_gather_97
  refine zp_bind (zp_mono (xg_f_Findings_noteRaces  hs) fun r13 hr13 => ?_)
  exact hk31 _ _ hr13
theorem xg_b_Findings_gather_91_1 {σ0 : zS} {k31 : zS → Int32 → Option (zS)} {N : Nat} {σ : zS} {v2 : Int32} (hk31 : ∀ (y0 : zS) (y1 : Int32), FGA σ0 y0 → zp (k31 y0 y1) (fun r => FGA σ0 r)) (hs : FGA σ0 σ) : zp (zb_Findings_gather_91_1 k31 N σ v2) (fun r => FGA σ0 r) := by
  unfold zb_Findings_gather_91_1
  refine zp_bind (zp_mono (xg_f_Numbers_add_c5  hs) fun r17 hr17 => ?_)
  exact xg_b_Findings_gather_97 (hk31) hr17
theorem xg_b_Findings_gather_91 {σ0 : zS} {k31 : zS → Int32 → Option (zS)} {N : Nat} {σ : zS} {v2 : Int32} (hk31 : ∀ (y0 : zS) (y1 : Int32), FGA σ0 y0 → zp (k31 y0 y1) (fun r => FGA σ0 r)) (hs : FGA σ0 σ) : zp (zb_Findings_gather_91 k31 N σ v2) (fun r => FGA σ0 r) := by
  unfold zb_Findings_gather_91
  refine zp_bind (zp_mono (xg_f_Numbers_add_c4  hs) fun r16 hr16 => ?_)
  exact xg_b_Findings_gather_97 (hk31) hr16
theorem xg_b_Findings_gather_62 {σ0 : zS} {k31 : zS → Int32 → Option (zS)} {N : Nat} {σ : zS} {v2 : Int32} (hk31 : ∀ (y0 : zS) (y1 : Int32), FGA σ0 y0 → zp (k31 y0 y1) (fun r => FGA σ0 r)) (hs : FGA σ0 σ) : zp (zb_Findings_gather_62 k31 N σ v2) (fun r => FGA σ0 r) := by
  unfold zb_Findings_gather_62
  refine zp_bind fun r11 _ => ?_
  refine zp_ite (fun _ => ?_) fun _ => ?_
  ·
    exact xg_b_Findings_gather_97 (hk31) hs
  ·
    refine zp_bind fun r14 _ => ?_
    refine zp_ite (fun _ => ?_) fun _ => ?_
    ·
      exact xg_b_Findings_gather_91 (hk31) hs
    ·
      exact xg_b_Findings_gather_91_1 (hk31) hs
theorem xg_b_Findings_gather_31 {σ0 : zS} {N : Nat}  : ∀ (n : Nat) (σ : zS) (v2 : Int32), FGA σ0 σ → zp (zb_Findings_gather_31 N n σ v2) (fun r => FGA σ0 r) := by
  intro n
  induction n with
  | zero => intro _ _ _; exact zp_none
  | succ n ih =>
    intro σ v2 hs
    rw [zb_Findings_gather_31]
    refine zp_ite (fun _ => ?_) fun _ => ?_
    ·
      refine zp_bind (zp_mono (xg_f_Findings_listRaces  hs) fun r6 hr6 => ?_)
      refine zp_bind (zp_mono (xg_f_Outcomes_gather  hr6) fun r7 hr7 => ?_)
      exact zp_some hr7
    ·
      refine zp_bind (zp_mono (xg_f_Space_load  hs) fun r8 hr8 => ?_)
      refine zp_bind fun r9 _ => ?_
      refine zp_ite (fun _ => ?_) fun _ => ?_
      ·
        exact xg_b_Findings_gather_62 (ih) hr8
      ·
        refine zp_bind (zp_mono (xg_f_Numbers_add_c6  hr8) fun r18 hr18 => ?_)
        exact xg_b_Findings_gather_62 (ih) hr18
theorem xg_f_Findings_gather {σ0 : zS} {N : Nat} {σ : zS}  (hs : FGA σ0 σ) : zp (zf_Findings_gather N σ) (fun r => FGA σ0 r) := by
  unfold zf_Findings_gather
  refine zp_bind (zp_mono (xg_f_Numbers_clear  hs) fun r1 hr1 => ?_)
  refine zp_bind (zp_mono (xg_f_Numbers_clear_c1  hr1) fun r2 hr2 => ?_)
  refine zp_bind (zp_mono (xg_f_Numbers_clear_c2  hr2) fun r3 hr3 => ?_)
  refine zp_bind (zp_mono (xg_f_Arrays_fill_c5  hr3) fun r4 hr4 => ?_)
  exact xg_b_Findings_gather_31  _ _ _ hr4
