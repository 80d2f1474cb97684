-- both answer alike
set_option maxRecDepth 2000
def FX (σ0 σ : zS) : Prop := (∀ q, q < 35 → q ≠ 2 → σ q = σ0 q) ∧ (∀ i, i ≠ 14 → i ≠ 15 → i ≠ 16 → σ 2 i = σ0 2 i)
theorem FX.up {σ0 σ : zS} {p i : Nat} {x : Int32} (hp : 35 ≤ p) (h : FX σ0 σ) : FX σ0 (zx_up σ p i x) := ⟨fun q a b => by rw [zu_other (by omega)]; exact h.1 q a b, fun j a b c => by rw [zu_other (by omega)]; exact h.2 j a b c⟩
theorem FX.u2 {σ0 σ : zS} {i : Nat} {x : Int32} (hi : i = 14 ∨ i = 15 ∨ i = 16) (h : FX σ0 σ) : FX σ0 (zx_up σ 2 i x) := ⟨fun q a b => by rw [zu_other b]; exact h.1 q a b, fun j a b c => by rw [zx_up_same, zu_ne (by omega)]; exact h.2 j a b c⟩
theorem FX.cp {σ0 σ : zS} {p q : Nat} {a b c : Int32} (hq : 35 ≤ q) (h : FX σ0 σ) : FX σ0 (zJ_copy σ p q a b c) := by
  have e : ∀ u, u ≠ q → (zJ_copy σ p q a b c) u = σ u := fun u hu => by
    funext i
    unfold zJ_copy
    rw [if_neg hu]
  exact ⟨fun u x y => by rw [e u (by omega)]; exact h.1 u x y, fun j x y z => by rw [e 2 (by omega)]; exact h.2 j x y z⟩
theorem wx_b_Arrays_fill_c3_5 {σ0 : zS} {N : Nat}  : ∀ (n : Nat) (σ : zS) (v1 : Int32) (v2 : Int32) (v3 : Int32), FX σ0 σ → zp (zb_Arrays_fill_c3_5 N n σ v1 v2 v3) (fun r => FX σ0 r) := by
  intro n
  induction n with
  | zero => intro _ _ _ _ _; exact zp_none
  | succ n ih =>
    intro σ v1 v2 v3 hs
    rw [zb_Arrays_fill_c3_5]
    refine zp_ite (fun _ => ?_) fun _ => ?_
    ·
      exact zp_some hs
    ·
      refine zp_chk fun _ => ?_
      exact ih _ _ _ _ (FX.up (by decide) hs)
theorem wx_f_Arrays_fill_c3 {σ0 : zS} {N : Nat} {σ : zS} {x2 : Int32}  (hs : FX σ0 σ) : zp (zf_Arrays_fill_c3 N σ x2) (fun r => FX σ0 r) := by
  unfold zf_Arrays_fill_c3
  exact wx_b_Arrays_fill_c3_5  _ _ _ _ _ hs
theorem wx_b_Machine_setFirst_50 {σ0 : zS} {k15 : zS → Int32 → Option (zS)} {N : Nat} {σ : zS} {v1 : Int32} {v2 : Int32} (hk15 : ∀ (y0 : zS) (y1 : Int32), FX σ0 y0 → zp (k15 y0 y1) (fun r => FX σ0 r)) (hs : FX σ0 σ) : zp (zb_Machine_setFirst_50 k15 N σ v1 v2) (fun r => FX σ0 r) := by
  unfold zb_Machine_setFirst_50
  refine zp_chk fun _ => ?_
  exact hk15 _ _ (FX.up (by decide) hs)
theorem wx_b_Machine_setFirst_36 {σ0 : zS} {k15 : zS → Int32 → Option (zS)} {N : Nat} {σ : zS} {v1 : Int32} {s0 : Int32} (hk15 : ∀ (y0 : zS) (y1 : Int32), FX σ0 y0 → zp (k15 y0 y1) (fun r => FX σ0 r)) (hs : FX σ0 σ) : zp (zb_Machine_setFirst_36 k15 N σ v1 s0) (fun r => FX σ0 r) := by
  unfold zb_Machine_setFirst_36
  refine zp_bind fun r4 _ => ?_
  refine zp_ite (fun _ => ?_) fun _ => ?_
  ·
    exact wx_b_Machine_setFirst_50 (hk15) hs
  ·
    exact wx_b_Machine_setFirst_50 (hk15) hs
theorem wx_b_Machine_setFirst_15 {σ0 : zS} {N : Nat}  : ∀ (n : Nat) (σ : zS) (v1 : Int32), FX σ0 σ → zp (zb_Machine_setFirst_15 N n σ v1) (fun r => FX σ0 r) := by
  intro n
  induction n with
  | zero => intro _ _ _; exact zp_none
  | succ n ih =>
    intro σ v1 hs
    rw [zb_Machine_setFirst_15]
    refine zp_ite (fun _ => ?_) fun _ => ?_
    ·
      exact zp_some hs
    ·
      refine zp_bind fun r2 _ => ?_
      refine zp_ite (fun _ => ?_) fun _ => ?_
      ·
        exact wx_b_Machine_setFirst_36 (ih) hs
      ·
        exact wx_b_Machine_setFirst_36 (ih) hs
theorem wx_f_Machine_setFirst {σ0 : zS} {N : Nat} {σ : zS}  (hs : FX σ0 σ) : zp (zf_Machine_setFirst N σ) (fun r => FX σ0 r) := by
  unfold zf_Machine_setFirst
  exact wx_b_Machine_setFirst_15  _ _ _ (FX.up (by decide) hs)
theorem wx_f_Space_note {σ0 : zS} {N : Nat} {σ : zS} {x1 : Int32}  (hs : FX σ0 σ) : zp (zf_Space_note N σ x1) (fun r => FX σ0 r.2) := by
  unfold zf_Space_note
  refine zp_bind fun r1 _ => ?_
  refine zp_chk fun _ => ?_
  refine zp_ite (fun _ => ?_) fun _ => ?_
  ·
    refine zp_ite (fun _ => ?_) fun _ => ?_
    ·
      exact zp_some hs
    ·
      refine zp_ite (fun _ => ?_) fun _ => ?_
      ·
        refine zp_chk fun _ => ?_
        refine zp_chk fun _ => ?_
        refine zp_chk fun _ => ?_
        exact zp_some (FX.up (by decide) (FX.up (by decide) (FX.up (by decide) (FX.cp (by decide) hs))))
      ·
        exact zp_some hs
  ·
    exact zp_some hs
theorem wx_b_Arrays_fill_c4_5 {σ0 : zS} {N : Nat}  : ∀ (n : Nat) (σ : zS) (v1 : Int32) (v2 : Int32) (v3 : Int32), FX σ0 σ → zp (zb_Arrays_fill_c4_5 N n σ v1 v2 v3) (fun r => FX σ0 r) := by
  intro n
  induction n with
  | zero => intro _ _ _ _ _; exact zp_none
  | succ n ih =>
    intro σ v1 v2 v3 hs
    rw [zb_Arrays_fill_c4_5]
    refine zp_ite (fun _ => ?_) fun _ => ?_
    ·
      exact zp_some hs
    ·
      refine zp_chk fun _ => ?_
      exact ih _ _ _ _ (FX.up (by decide) hs)
theorem wx_f_Arrays_fill_c4 {σ0 : zS} {N : Nat} {σ : zS} {x2 : Int32}  (hs : FX σ0 σ) : zp (zf_Arrays_fill_c4 N σ x2) (fun r => FX σ0 r) := by
  unfold zf_Arrays_fill_c4
  exact wx_b_Arrays_fill_c4_5  _ _ _ _ _ hs
theorem wx_b_Machine_load_130 {σ0 : zS} {k34 : zS → Int32 → Option (zS)} {N : Nat} {σ : zS} {v3 : Int32} (hk34 : ∀ (y0 : zS) (y1 : Int32), FX σ0 y0 → zp (k34 y0 y1) (fun r => FX σ0 r)) (hs : FX σ0 σ) : zp (zb_Machine_load_130 k34 N σ v3) (fun r => FX σ0 r) := by
  unfold zb_Machine_load_130
  exact hk34 _ _ hs
theorem wx_b_Machine_load_124 {σ0 : zS} {k95 : zS → Int32 → Int32 → Int32 → Option (zS)} {N : Nat} {σ : zS} {v3 : Int32} {v5 : Int32} {v6 : Int32} (hk95 : ∀ (y0 : zS) (y1 : Int32) (y2 : Int32) (y3 : Int32), FX σ0 y0 → zp (k95 y0 y1 y2 y3) (fun r => FX σ0 r)) (hs : FX σ0 σ) : zp (zb_Machine_load_124 k95 N σ v3 v5 v6) (fun r => FX σ0 r) := by
  unfold zb_Machine_load_124
  exact hk95 _ _ _ _ hs
theorem wx_b_Machine_load_95 {σ0 : zS} {k34 : zS → Int32 → Option (zS)} {N : Nat} (hk34 : ∀ (y0 : zS) (y1 : Int32), FX σ0 y0 → zp (k34 y0 y1) (fun r => FX σ0 r)) : ∀ (n : Nat) (σ : zS) (v3 : Int32) (v5 : Int32) (v6 : Int32), FX σ0 σ → zp (zb_Machine_load_95 k34 N n σ v3 v5 v6) (fun r => FX σ0 r) := by
  intro n
  induction n with
  | zero => intro _ _ _ _ _; exact zp_none
  | succ n ih =>
    intro σ v3 v5 v6 hs
    rw [zb_Machine_load_95]
    refine zp_ite (fun _ => ?_) fun _ => ?_
    ·
      exact wx_b_Machine_load_130 (hk34) hs
    ·
      refine zp_ite (fun _ => ?_) fun _ => ?_
      ·
        exact wx_b_Machine_load_130 (hk34) hs
      ·
        refine zp_ite (fun _ => ?_) fun _ => ?_
        ·
          exact wx_b_Machine_load_124 (ih) hs
        ·
          refine zp_chk fun _ => ?_
          exact wx_b_Machine_load_124 (ih) (FX.up (by decide) hs)
theorem wx_b_Machine_load_34 {σ0 : zS} {N : Nat}  : ∀ (n : Nat) (σ : zS) (v3 : Int32), FX σ0 σ → zp (zb_Machine_load_34 N n σ v3) (fun r => FX σ0 r) := by
  intro n
  induction n with
  | zero => intro _ _ _; exact zp_none
  | succ n ih =>
    intro σ v3 hs
    rw [zb_Machine_load_34]
    refine zp_ite (fun _ => ?_) fun _ => ?_
    ·
      exact zp_some hs
    ·
      refine zp_chk fun _ => ?_
      refine zp_chk fun _ => ?_
      refine zp_bind fun r8 _ => ?_
      refine zp_chk fun _ => ?_
      refine zp_bind fun r10 _ => ?_
      exact wx_b_Machine_load_95 (ih) _ _ _ _ _ (FX.up (by decide) (FX.up (by decide) hs))
theorem wx_f_Machine_load {σ0 : zS} {N : Nat} {σ : zS} {x2 : Int32}  (hs : FX σ0 σ) : zp (zf_Machine_load N σ x2) (fun r => FX σ0 r) := by
  unfold zf_Machine_load
  refine zp_ite (fun _ => ?_) fun _ => ?_
  ·
    exact zp_some hs
  ·
    refine zp_ite (fun _ => ?_) fun _ => ?_
    ·
      refine zp_chk fun _ => ?_
      refine zp_bind (zp_mono (wx_f_Arrays_fill_c4  (FX.cp (by decide) hs)) fun r4 hr4 => ?_)
      exact wx_b_Machine_load_34  _ _ _ hr4
    ·
      exact zp_some hs
theorem wx_f_Space_load {σ0 : zS} {N : Nat} {σ : zS} {x1 : Int32}  (hs : FX σ0 σ) : zp (zf_Space_load N σ x1) (fun r => FX σ0 r) := by
  unfold zf_Space_load
  refine zp_bind fun r1 _ => ?_
  refine zp_ite (fun _ => ?_) fun _ => ?_
  ·
    exact zp_some hs
  ·
    refine zp_bind (zp_mono (wx_f_Machine_load  hs) fun r3 hr3 => ?_)
    exact zp_some hr3
theorem wx_b_Machine_place_30 {σ0 : zS} {σ : zS} {v1 : Int32} {v2 : Int32} {v3 : Int32} {s0 : Int32}  (hs : FX σ0 σ) : zp (zb_Machine_place_30 σ v1 v2 v3 s0) (fun r => FX σ0 r) := by
  unfold zb_Machine_place_30
  refine zp_ite (fun _ => ?_) fun _ => ?_
  ·
    exact zp_some hs
  ·
    refine zp_ite (fun _ => ?_) fun _ => ?_
    ·
      exact zp_some hs
    ·
      refine zp_chk fun _ => ?_
      refine zp_chk fun _ => ?_
      exact zp_some (FX.up (by decide) hs)
theorem wx_b_Machine_place_15 {σ0 : zS} {σ : zS} {v1 : Int32} {v2 : Int32} {v3 : Int32} {s0 : Int32}  (hs : FX σ0 σ) : zp (zb_Machine_place_15 σ v1 v2 v3 s0) (fun r => FX σ0 r) := by
  unfold zb_Machine_place_15
  refine zp_ite (fun _ => ?_) fun _ => ?_
  ·
    exact wx_b_Machine_place_30  hs
  ·
    exact wx_b_Machine_place_30  hs
theorem wx_b_Machine_place_10 {σ0 : zS} {σ : zS} {v1 : Int32} {v2 : Int32} {v3 : Int32}  (hs : FX σ0 σ) : zp (zb_Machine_place_10 σ v1 v2 v3) (fun r => FX σ0 r) := by
  unfold zb_Machine_place_10
  exact wx_b_Machine_place_15  hs
theorem wx_f_Machine_place {σ0 : zS} {σ : zS} {x1 : Int32} {x2 : Int32} {x3 : Int32}  (hs : FX σ0 σ) : zp (zf_Machine_place σ x1 x2 x3) (fun r => FX σ0 r) := by
  unfold zf_Machine_place
  refine zp_ite (fun _ => ?_) fun _ => ?_
  ·
    exact wx_b_Machine_place_10  hs
  ·
    refine zp_ite (fun _ => ?_) fun _ => ?_
    ·
      exact wx_b_Machine_place_15  hs
    ·
      exact wx_b_Machine_place_10  hs
theorem wx_b_Machine_goTo_49 {σ0 : zS} {σ : zS} {s0 : Int32} {s1 : Int32} {s2 : Int32}  (hs : FX σ0 σ) : zp (zb_Machine_goTo_49 σ s0 s1 s2) (fun r => FX σ0 r) := by
  unfold zb_Machine_goTo_49
  refine zp_bind (zp_mono (wx_f_Machine_place  hs) fun r4 hr4 => ?_)
  exact zp_some hr4
theorem wx_b_Machine_goTo_40 {σ0 : zS} {σ : zS} {v3 : Int32} {s0 : Int32} {s1 : Int32}  (hs : FX σ0 σ) : zp (zb_Machine_goTo_40 σ v3 s0 s1) (fun r => FX σ0 r) := by
  unfold zb_Machine_goTo_40
  refine zp_ite (fun _ => ?_) fun _ => ?_
  ·
    exact wx_b_Machine_goTo_49  hs
  ·
    exact wx_b_Machine_goTo_49  hs
theorem wx_b_Machine_goTo_21 {σ0 : zS} {σ : zS} {v1 : Int32} {v2 : Int32} {s0 : Int32}  (hs : FX σ0 σ) : zp (zb_Machine_goTo_21 σ v1 v2 s0) (fun r => FX σ0 r) := by
  unfold zb_Machine_goTo_21
  refine zp_ite (fun _ => ?_) fun _ => ?_
  ·
    exact wx_b_Machine_goTo_40  hs
  ·
    refine zp_bind fun r5 _ => ?_
    exact wx_b_Machine_goTo_40  hs
theorem wx_b_Machine_goTo_16 {σ0 : zS} {σ : zS} {v1 : Int32} {v2 : Int32}  (hs : FX σ0 σ) : zp (zb_Machine_goTo_16 σ v1 v2) (fun r => FX σ0 r) := by
  unfold zb_Machine_goTo_16
  exact wx_b_Machine_goTo_21  hs
theorem wx_f_Machine_goTo {σ0 : zS} {σ : zS} {x1 : Int32} {x2 : Int32}  (hs : FX σ0 σ) : zp (zf_Machine_goTo σ x1 x2) (fun r => FX σ0 r) := by
  unfold zf_Machine_goTo
  refine zp_ite (fun _ => ?_) fun _ => ?_
  ·
    exact wx_b_Machine_goTo_16  hs
  ·
    refine zp_bind fun r6 _ => ?_
    refine zp_ite (fun _ => ?_) fun _ => ?_
    ·
      exact wx_b_Machine_goTo_21  hs
    ·
      exact wx_b_Machine_goTo_16  hs
theorem wx_f_Machine_startThread {σ0 : zS} {σ : zS} {x1 : Int32}  (hs : FX σ0 σ) : zp (zf_Machine_startThread σ x1) (fun r => FX σ0 r.2) := by
  unfold zf_Machine_startThread
  refine zp_bind fun r1 _ => ?_
  refine zp_ite (fun _ => ?_) fun _ => ?_
  ·
    refine zp_bind (zp_mono (wx_f_Machine_goTo  hs) fun r3 hr3 => ?_)
    exact zp_some hr3
  ·
    exact zp_some hs
theorem wx_b_Machine_signal_121 {σ0 : zS} {k49 : zS → Int32 → Int32 → Int32 → Int32 → Option (Int32 × zS)} {N : Nat} {σ : zS} {v3 : Int32} {v4 : Int32} {v5 : Int32} {v6 : Int32} (hk49 : ∀ (y0 : zS) (y1 : Int32) (y2 : Int32) (y3 : Int32) (y4 : Int32), FX σ0 y0 → zp (k49 y0 y1 y2 y3 y4) (fun r => FX σ0 r.2)) (hs : FX σ0 σ) : zp (zb_Machine_signal_121 k49 N σ v3 v4 v5 v6) (fun r => FX σ0 r.2) := by
  unfold zb_Machine_signal_121
  exact hk49 _ _ _ _ _ hs
theorem wx_b_Machine_signal_119 {σ0 : zS} {k49 : zS → Int32 → Int32 → Int32 → Int32 → Option (Int32 × zS)} {N : Nat} {σ : zS} {v3 : Int32} {v4 : Int32} {v6 : Int32} {s0 : Int32} (hk49 : ∀ (y0 : zS) (y1 : Int32) (y2 : Int32) (y3 : Int32) (y4 : Int32), FX σ0 y0 → zp (k49 y0 y1 y2 y3 y4) (fun r => FX σ0 r.2)) (hs : FX σ0 σ) : zp (zb_Machine_signal_119 k49 N σ v3 v4 v6 s0) (fun r => FX σ0 r.2) := by
  unfold zb_Machine_signal_119
  exact wx_b_Machine_signal_121 (hk49) hs
theorem wx_b_Machine_signal_49 {σ0 : zS} {N : Nat}  : ∀ (n : Nat) (σ : zS) (v3 : Int32) (v4 : Int32) (v5 : Int32) (v6 : Int32), FX σ0 σ → zp (zb_Machine_signal_49 N n σ v3 v4 v5 v6) (fun r => FX σ0 r.2) := by
  intro n
  induction n with
  | zero => intro _ _ _ _ _ _; exact zp_none
  | succ n ih =>
    intro σ v3 v4 v5 v6 hs
    rw [zb_Machine_signal_49]
    refine zp_ite (fun _ => ?_) fun _ => ?_
    ·
      exact zp_some hs
    ·
      refine zp_ite (fun _ => ?_) fun _ => ?_
      ·
        exact zp_some hs
      ·
        refine zp_bind fun r8 _ => ?_
        refine zp_ite (fun _ => ?_) fun _ => ?_
        ·
          exact wx_b_Machine_signal_121 (ih) hs
        ·
          refine zp_bind fun r10 _ => ?_
          refine zp_chk fun _ => ?_
          refine zp_ite (fun _ => ?_) fun _ => ?_
          ·
            exact wx_b_Machine_signal_121 (ih) hs
          ·
            refine zp_bind fun r13 _ => ?_
            refine zp_bind (zp_mono (wx_f_Machine_place  hs) fun r14 hr14 => ?_)
            refine zp_ite (fun _ => ?_) fun _ => ?_
            ·
              exact wx_b_Machine_signal_119 (ih) hr14
            ·
              exact wx_b_Machine_signal_119 (ih) hr14
theorem wx_b_Machine_signal_44 {σ0 : zS} {N : Nat} {σ : zS} {v3 : Int32} {v4 : Int32} {s0 : Int32}  (hs : FX σ0 σ) : zp (zb_Machine_signal_44 N σ v3 v4 s0) (fun r => FX σ0 r.2) := by
  unfold zb_Machine_signal_44
  exact wx_b_Machine_signal_49  _ _ _ _ _ _ hs
theorem wx_f_Machine_signal {σ0 : zS} {N : Nat} {σ : zS} {x1 : Int32} {x2 : Int32}  (hs : FX σ0 σ) : zp (zf_Machine_signal N σ x1 x2) (fun r => FX σ0 r.2) := by
  unfold zf_Machine_signal
  refine zp_chk fun _ => ?_
  refine zp_chk fun _ => ?_
  refine zp_bind fun r3 _ => ?_
  refine zp_ite (fun _ => ?_) fun _ => ?_
  ·
    refine zp_ite (fun _ => ?_) fun _ => ?_
    ·
      exact wx_b_Machine_signal_44  hs
    ·
      exact wx_b_Machine_signal_44  hs
  ·
    exact zp_some hs
theorem wx_b_Machine_work_150 {σ0 : zS} {σ : zS} {v4 : Int32} {v6 : Int32} {s0 : Int32} {s1 : Int32}  (hs : FX σ0 σ) : zp (zb_Machine_work_150 σ v4 v6 s0 s1) (fun r => FX σ0 r) := by
  unfold zb_Machine_work_150
  refine zp_ite (fun _ => ?_) fun _ => ?_
  ·
    exact zp_some hs
  ·
    refine zp_ite (fun _ => ?_) fun _ => ?_
    ·
      exact zp_some hs
    ·
      refine zp_chk fun _ => ?_
      refine zp_chk fun _ => ?_
      exact zp_some (FX.up (by decide) hs)
theorem wx_b_Machine_work_121 {σ0 : zS} {σ : zS} {v2 : Int32} {v3 : Int32} {v4 : Int32} {s0 : Int32}  (hs : FX σ0 σ) : zp (zb_Machine_work_121 σ v2 v3 v4 s0) (fun r => FX σ0 r) := by
  unfold zb_Machine_work_121
  refine zp_ite (fun _ => ?_) fun _ => ?_
  ·
    refine zp_chk fun _ => ?_
    exact wx_b_Machine_work_150  hs
  ·
    refine zp_chk fun _ => ?_
    exact wx_b_Machine_work_150  hs
theorem wx_b_Machine_work_109 {σ0 : zS} {σ : zS} {v1 : Int32} {v2 : Int32} {v3 : Int32} {v4 : Int32}  (hs : FX σ0 σ) : zp (zb_Machine_work_109 σ v1 v2 v3 v4) (fun r => FX σ0 r) := by
  unfold zb_Machine_work_109
  refine zp_ite (fun _ => ?_) fun _ => ?_
  ·
    exact wx_b_Machine_work_121  hs
  ·
    exact wx_b_Machine_work_121  hs
theorem wx_f_Machine_work {σ0 : zS} {σ : zS} {x1 : Int32} {x2 : Int32}  (hs : FX σ0 σ) : zp (zf_Machine_work σ x1 x2) (fun r => FX σ0 r) := by
  unfold zf_Machine_work
  refine zp_chk fun _ => ?_
  refine zp_chk fun _ => ?_
  refine zp_bind fun r3 _ => ?_
  refine zp_chk fun _ => ?_
  refine zp_bind fun r5 _ => ?_
  refine zp_ite (fun _ => ?_) fun _ => ?_
  ·
    refine zp_chk fun _ => ?_
    refine zp_ite (fun _ => ?_) fun _ => ?_
    ·
      refine zp_chk fun _ => ?_
      refine zp_ite (fun _ => ?_) fun _ => ?_
      ·
        exact wx_b_Machine_work_109  hs
      ·
        exact wx_b_Machine_work_109  hs
    ·
      exact wx_b_Machine_work_109  hs
  ·
    refine zp_chk fun _ => ?_
    refine zp_bind fun r20 _ => ?_
    exact wx_b_Machine_work_109  hs
theorem wx_b_Machine_move_317 {σ0 : zS} {N : Nat} {σ : zS} {v1 : Int32} {v6 : Int32}  (hs : FX σ0 σ) : zp (zb_Machine_move_317 N σ v1 v6) (fun r => FX σ0 r) := by
  unfold zb_Machine_move_317
  refine zp_bind (zp_mono (wx_f_Machine_goTo  hs) fun r28 hr28 => ?_)
  exact zp_some hr28
theorem wx_b_Machine_move_261 {σ0 : zS} {N : Nat} {σ : zS} {v1 : Int32} {v3 : Int32} {v5 : Int32} {v6 : Int32}  (hs : FX σ0 σ) : zp (zb_Machine_move_261 N σ v1 v3 v5 v6) (fun r => FX σ0 r) := by
  unfold zb_Machine_move_261
  refine zp_ite (fun _ => ?_) fun _ => ?_
  ·
    refine zp_bind fun r26 _ => ?_
    refine zp_ite (fun _ => ?_) fun _ => ?_
    ·
      exact wx_b_Machine_move_317  hs
    ·
      refine zp_chk fun _ => ?_
      refine zp_ite (fun _ => ?_) fun _ => ?_
      ·
        exact wx_b_Machine_move_317  hs
      ·
        refine zp_bind fun r31 _ => ?_
        refine zp_bind (zp_mono (wx_f_Machine_place  hs) fun r32 hr32 => ?_)
        exact zp_some hr32
  ·
    refine zp_bind fun r33 _ => ?_
    refine zp_bind (zp_mono (wx_f_Machine_place  hs) fun r34 hr34 => ?_)
    exact zp_some hr34
theorem wx_b_Machine_move_216 {σ0 : zS} {N : Nat} {σ : zS} {v1 : Int32} {v3 : Int32} {v5 : Int32} {s0 : Int32}  (hs : FX σ0 σ) : zp (zb_Machine_move_216 N σ v1 v3 v5 s0) (fun r => FX σ0 r) := by
  unfold zb_Machine_move_216
  exact wx_b_Machine_move_261  hs
theorem wx_b_Machine_move_116 {σ0 : zS} {N : Nat} {σ : zS} {v1 : Int32} {v3 : Int32} {v5 : Int32} {v6 : Int32} {s0 : Int32}  (hs : FX σ0 σ) : zp (zb_Machine_move_116 N σ v1 v3 v5 v6 s0) (fun r => FX σ0 r) := by
  unfold zb_Machine_move_116
  refine zp_ite (fun _ => ?_) fun _ => ?_
  ·
    refine zp_bind (zp_mono (wx_f_Machine_work  hs) fun r49 hr49 => ?_)
    exact wx_b_Machine_move_261  hr49
  ·
    refine zp_ite (fun _ => ?_) fun _ => ?_
    ·
      refine zp_bind (zp_mono (wx_f_Machine_work  hs) fun r48 hr48 => ?_)
      exact wx_b_Machine_move_261  hr48
    ·
      refine zp_ite (fun _ => ?_) fun _ => ?_
      ·
        refine zp_bind (zp_mono (wx_f_Machine_work  hs) fun r47 hr47 => ?_)
        exact wx_b_Machine_move_261  hr47
      ·
        refine zp_ite (fun _ => ?_) fun _ => ?_
        ·
          exact wx_b_Machine_move_261  hs
        ·
          refine zp_ite (fun _ => ?_) fun _ => ?_
          ·
            exact wx_b_Machine_move_261  hs
          ·
            refine zp_ite (fun _ => ?_) fun _ => ?_
            ·
              refine zp_bind fun r44 _ => ?_
              refine zp_ite (fun _ => ?_) fun _ => ?_
              ·
                refine zp_chk fun _ => ?_
                exact wx_b_Machine_move_216  hs
              ·
                exact wx_b_Machine_move_216  hs
            ·
              refine zp_ite (fun _ => ?_) fun _ => ?_
              ·
                refine zp_bind fun r41 _ => ?_
                refine zp_ite (fun _ => ?_) fun _ => ?_
                ·
                  refine zp_chk fun _ => ?_
                  exact wx_b_Machine_move_216  hs
                ·
                  exact wx_b_Machine_move_216  hs
              ·
                refine zp_ite (fun _ => ?_) fun _ => ?_
                ·
                  refine zp_bind (zp_mono (wx_f_Machine_signal  hs) fun r40 hr40 => ?_)
                  exact wx_b_Machine_move_261  hr40
                ·
                  refine zp_ite (fun _ => ?_) fun _ => ?_
                  ·
                    refine zp_bind (zp_mono (wx_f_Machine_signal  hs) fun r39 hr39 => ?_)
                    exact wx_b_Machine_move_261  hr39
                  ·
                    refine zp_ite (fun _ => ?_) fun _ => ?_
                    ·
                      refine zp_bind (zp_mono (wx_f_Machine_signal  hs) fun r38 hr38 => ?_)
                      exact wx_b_Machine_move_261  hr38
                    ·
                      refine zp_ite (fun _ => ?_) fun _ => ?_
                      ·
                        refine zp_chk fun _ => ?_
                        refine zp_bind (zp_mono (wx_f_Machine_startThread  hs) fun r37 hr37 => ?_)
                        exact wx_b_Machine_move_261  hr37
                      ·
                        refine zp_ite (fun _ => ?_) fun _ => ?_
                        ·
                          exact wx_b_Machine_move_261  hs
                        ·
                          refine zp_ite (fun _ => ?_) fun _ => ?_
                          ·
                            refine zp_bind fun r35 _ => ?_
                            exact wx_b_Machine_move_261  hs
                          ·
                            exact wx_b_Machine_move_261  hs
theorem wx_b_Machine_move_39 {σ0 : zS} {N : Nat} {σ : zS} {v1 : Int32} {v3 : Int32} {s0 : Int32}  (hs : FX σ0 σ) : zp (zb_Machine_move_39 N σ v1 v3 s0) (fun r => FX σ0 r) := by
  unfold zb_Machine_move_39
  refine zp_chk fun _ => ?_
  refine zp_chk fun _ => ?_
  refine zp_chk fun _ => ?_
  refine zp_bind fun r9 _ => ?_
  refine zp_ite (fun _ => ?_) fun _ => ?_
  ·
    refine zp_chk fun _ => ?_
    exact wx_b_Machine_move_116  (FX.up (by decide) (FX.cp (by decide) hs))
  ·
    exact wx_b_Machine_move_116  (FX.up (by decide) (FX.cp (by decide) hs))
theorem wx_b_Machine_move_38 {σ0 : zS} {N : Nat} {σ : zS} {v1 : Int32} {v3 : Int32}  (hs : FX σ0 σ) : zp (zb_Machine_move_38 N σ v1 v3) (fun r => FX σ0 r) := by
  unfold zb_Machine_move_38
  exact wx_b_Machine_move_39  hs
theorem wx_f_Machine_move {σ0 : zS} {N : Nat} {σ : zS} {x1 : Int32} {x2 : Int32}  (hs : FX σ0 σ) : zp (zf_Machine_move N σ x1 x2) (fun r => FX σ0 r) := by
  unfold zf_Machine_move
  refine zp_ite (fun _ => ?_) fun _ => ?_
  ·
    exact zp_some hs
  ·
    refine zp_ite (fun _ => ?_) fun _ => ?_
    ·
      refine zp_bind fun r3 _ => ?_
      refine zp_ite (fun _ => ?_) fun _ => ?_
      ·
        exact wx_b_Machine_move_38  hs
      ·
        refine zp_chk fun _ => ?_
        refine zp_ite (fun _ => ?_) fun _ => ?_
        ·
          exact wx_b_Machine_move_38  hs
        ·
          exact wx_b_Machine_move_39  hs
    ·
      exact zp_some hs
theorem wx_b_Space_exploreFrom_95 {σ0 : zS} {k20 : zS → Int32 → Int32 → Int32 → Int32 → Int32 → Option (Int32 × zS)} {N : Nat} {σ : zS} {v1 : Int32} {v2 : Int32} {v3 : Int32} {v4 : Int32} {v5 : Int32} (hk20 : ∀ (y0 : zS) (y1 : Int32) (y2 : Int32) (y3 : Int32) (y4 : Int32) (y5 : Int32), FX σ0 y0 → zp (k20 y0 y1 y2 y3 y4 y5) (fun r => FX σ0 r.2)) (hs : FX σ0 σ) : zp (zb_Space_exploreFrom_95 k20 N σ v1 v2 v3 v4 v5) (fun r => FX σ0 r.2) := by
  unfold zb_Space_exploreFrom_95
  exact hk20 _ _ _ _ _ _ hs
theorem wx_b_Space_exploreFrom_48 {σ0 : zS} {k20 : zS → Int32 → Int32 → Int32 → Int32 → Int32 → Option (Int32 × zS)} {N : Nat} {σ : zS} {v1 : Int32} {v2 : Int32} {v3 : Int32} {v4 : Int32} {v5 : Int32} {s0 : Int32} (hk20 : ∀ (y0 : zS) (y1 : Int32) (y2 : Int32) (y3 : Int32) (y4 : Int32) (y5 : Int32), FX σ0 y0 → zp (k20 y0 y1 y2 y3 y4 y5) (fun r => FX σ0 r.2)) (hs : FX σ0 σ) : zp (zb_Space_exploreFrom_48 k20 N σ v1 v2 v3 v4 v5 s0) (fun r => FX σ0 r.2) := by
  unfold zb_Space_exploreFrom_48
  refine zp_ite (fun _ => ?_) fun _ => ?_
  ·
    exact wx_b_Space_exploreFrom_95 (hk20) hs
  ·
    refine zp_bind fun r9 _ => ?_
    refine zp_ite (fun _ => ?_) fun _ => ?_
    ·
      exact wx_b_Space_exploreFrom_95 (hk20) hs
    ·
      refine zp_bind (zp_mono (wx_f_Machine_move  hs) fun r11 hr11 => ?_)
      refine zp_bind (zp_mono (wx_f_Space_note  hr11) fun r12 hr12 => ?_)
      refine zp_ite (fun _ => ?_) fun _ => ?_
      ·
        exact wx_b_Space_exploreFrom_95 (hk20) hr12
      ·
        exact zp_some hr12
theorem wx_b_Space_exploreFrom_43 {σ0 : zS} {k20 : zS → Int32 → Int32 → Int32 → Int32 → Int32 → Option (Int32 × zS)} {N : Nat} {σ : zS} {v1 : Int32} {v2 : Int32} {v3 : Int32} {v4 : Int32} {v5 : Int32} (hk20 : ∀ (y0 : zS) (y1 : Int32) (y2 : Int32) (y3 : Int32) (y4 : Int32) (y5 : Int32), FX σ0 y0 → zp (k20 y0 y1 y2 y3 y4 y5) (fun r => FX σ0 r.2)) (hs : FX σ0 σ) : zp (zb_Space_exploreFrom_43 k20 N σ v1 v2 v3 v4 v5) (fun r => FX σ0 r.2) := by
  unfold zb_Space_exploreFrom_43
  exact wx_b_Space_exploreFrom_48 (hk20) hs
theorem wx_b_Space_exploreFrom_20 {σ0 : zS} {N : Nat}  : ∀ (n : Nat) (σ : zS) (v1 : Int32) (v2 : Int32) (v3 : Int32) (v4 : Int32) (v5 : Int32), FX σ0 σ → zp (zb_Space_exploreFrom_20 N n σ v1 v2 v3 v4 v5) (fun r => FX σ0 r.2) := by
  intro n
  induction n with
  | zero => intro _ _ _ _ _ _ _; exact zp_none
  | succ n ih =>
    intro σ v1 v2 v3 v4 v5 hs
    rw [zb_Space_exploreFrom_20]
    refine zp_ite (fun _ => ?_) fun _ => ?_
    ·
      refine zp_bind fun r4 _ => ?_
      refine zp_ite (fun _ => ?_) fun _ => ?_
      ·
        exact zp_some hs
      ·
        refine zp_chk fun _ => ?_
        exact zp_some (FX.up (by decide) hs)
    ·
      refine zp_ite (fun _ => ?_) fun _ => ?_
      ·
        exact wx_b_Space_exploreFrom_43 (ih) hs
      ·
        refine zp_ite (fun _ => ?_) fun _ => ?_
        ·
          exact wx_b_Space_exploreFrom_48 (ih) hs
        ·
          exact wx_b_Space_exploreFrom_43 (ih) hs
theorem wx_f_Space_exploreFrom {σ0 : zS} {N : Nat} {σ : zS} {x1 : Int32} {x2 : Int32}  (hs : FX σ0 σ) : zp (zf_Space_exploreFrom N σ x1 x2) (fun r => FX σ0 r.2) := by
  unfold zf_Space_exploreFrom
  refine zp_bind (zp_mono (wx_f_Space_load  hs) fun r1 hr1 => ?_)
  refine zp_bind fun r2 _ => ?_
  exact wx_b_Space_exploreFrom_20  _ _ _ _ _ _ _ hr1
theorem wx_b_Space_explore_28 {σ0 : zS} {N : Nat}  : ∀ (n : Nat) (σ : zS) (v1 : Int32) (v2 : Int32) (v3 : Int32), FX σ0 σ → zp (zb_Space_explore_28 N n σ v1 v2 v3) (fun r => FX σ0 r.2) := by
  intro n
  induction n with
  | zero => intro _ _ _ _ _; exact zp_none
  | succ n ih =>
    intro σ v1 v2 v3 hs
    rw [zb_Space_explore_28]
    refine zp_ite (fun _ => ?_) fun _ => ?_
    ·
      refine zp_chk fun _ => ?_
      exact zp_some hs
    ·
      refine zp_ite (fun _ => ?_) fun _ => ?_
      ·
        refine zp_chk fun _ => ?_
        exact zp_some hs
      ·
        refine zp_ite (fun _ => ?_) fun _ => ?_
        ·
          refine zp_chk fun _ => ?_
          exact zp_some hs
        ·
          refine zp_bind (zp_mono (wx_f_Space_exploreFrom  hs) fun r10 hr10 => ?_)
          exact ih _ _ _ _ hr10
theorem wx_f_Space_explore {σ0 : zS} {N : Nat} {σ : zS} {x1 : Int32}  (hs : FX σ0 σ) : zp (zf_Space_explore N σ x1) (fun r => FX σ0 r.2) := by
  unfold zf_Space_explore
  refine zp_bind (zp_mono (wx_f_Arrays_fill_c3  (FX.up (by decide) hs)) fun r1 hr1 => ?_)
  refine zp_bind (zp_mono (wx_f_Machine_setFirst  hr1) fun r2 hr2 => ?_)
  refine zp_bind (zp_mono (wx_f_Space_note  hr2) fun r3 hr3 => ?_)
  exact wx_b_Space_explore_28  _ _ _ _ _ hr3
theorem wx_f_Numbers_clear {σ0 : zS} {σ : zS}  (hs : FX σ0 σ) : zp (zf_Numbers_clear σ) (fun r => FX σ0 r) := by
  unfold zf_Numbers_clear
  exact zp_some (FX.up (by decide) hs)
theorem wx_f_Numbers_clear_c1 {σ0 : zS} {σ : zS}  (hs : FX σ0 σ) : zp (zf_Numbers_clear_c1 σ) (fun r => FX σ0 r) := by
  unfold zf_Numbers_clear_c1
  exact zp_some (FX.up (by decide) hs)
theorem wx_f_Numbers_clear_c2 {σ0 : zS} {σ : zS}  (hs : FX σ0 σ) : zp (zf_Numbers_clear_c2 σ) (fun r => FX σ0 r) := by
  unfold zf_Numbers_clear_c2
  exact zp_some (FX.up (by decide) hs)
theorem wx_b_Arrays_fill_c5_5 {σ0 : zS} {N : Nat}  : ∀ (n : Nat) (σ : zS) (v1 : Int32) (v2 : Int32) (v3 : Int32), FX σ0 σ → zp (zb_Arrays_fill_c5_5 N n σ v1 v2 v3) (fun r => FX σ0 r) := by
  intro n
  induction n with
  | zero => intro _ _ _ _ _; exact zp_none
  | succ n ih =>
    intro σ v1 v2 v3 hs
    rw [zb_Arrays_fill_c5_5]
    refine zp_ite (fun _ => ?_) fun _ => ?_
    ·
      exact zp_some hs
    ·
      refine zp_chk fun _ => ?_
      exact ih _ _ _ _ (FX.up (by decide) hs)
theorem wx_f_Arrays_fill_c5 {σ0 : zS} {N : Nat} {σ : zS} {x2 : Int32}  (hs : FX σ0 σ) : zp (zf_Arrays_fill_c5 N σ x2) (fun r => FX σ0 r) := by
  unfold zf_Arrays_fill_c5
  exact wx_b_Arrays_fill_c5_5  _ _ _ _ _ hs
theorem wx_f_Numbers_clear_c3 {σ0 : zS} {σ : zS}  (hs : FX σ0 σ) : zp (zf_Numbers_clear_c3 σ) (fun r => FX σ0 r) := by
  unfold zf_Numbers_clear_c3
  exact zp_some (FX.up (by decide) hs)
theorem wx_f_Numbers_clear_c4 {σ0 : zS} {σ : zS}  (hs : FX σ0 σ) : zp (zf_Numbers_clear_c4 σ) (fun r => FX σ0 r) := by
  unfold zf_Numbers_clear_c4
  exact zp_some (FX.up (by decide) hs)
theorem wx_f_Numbers_add {σ0 : zS} {σ : zS} {x1 : Int32}  (hs : FX σ0 σ) : zp (zf_Numbers_add σ x1) (fun r => FX σ0 r) := by
  unfold zf_Numbers_add
  refine zp_ite (fun _ => ?_) fun _ => ?_
  ·
    exact zp_some hs
  ·
    refine zp_ite (fun _ => ?_) fun _ => ?_
    ·
      exact zp_some hs
    ·
      refine zp_chk fun _ => ?_
      exact zp_some (FX.up (by decide) (FX.up (by decide) hs))
theorem wx_f_Numbers_add_c1 {σ0 : zS} {σ : zS} {x1 : Int32}  (hs : FX σ0 σ) : zp (zf_Numbers_add_c1 σ x1) (fun r => FX σ0 r) := by
  unfold zf_Numbers_add_c1
  refine zp_ite (fun _ => ?_) fun _ => ?_
  ·
    exact zp_some hs
  ·
    refine zp_ite (fun _ => ?_) fun _ => ?_
    ·
      exact zp_some hs
    ·
      refine zp_chk fun _ => ?_
      exact zp_some (FX.up (by decide) (FX.up (by decide) hs))
theorem wx_b_Findings_listRaces_56 {σ0 : zS} {k16 : zS → Int32 → Option (zS)} {N : Nat} {σ : zS} {v1 : Int32} (hk16 : ∀ (y0 : zS) (y1 : Int32), FX σ0 y0 → zp (k16 y0 y1) (fun r => FX σ0 r)) (hs : FX σ0 σ) : zp (zb_Findings_listRaces_56 k16 N σ v1) (fun r => FX σ0 r) := by
  unfold zb_Findings_listRaces_56
  exact hk16 _ _ hs
theorem wx_b_Findings_listRaces_16 {σ0 : zS} {N : Nat}  : ∀ (n : Nat) (σ : zS) (v1 : Int32), FX σ0 σ → zp (zb_Findings_listRaces_16 N n σ v1) (fun r => FX σ0 r) := by
  intro n
  induction n with
  | zero => intro _ _ _; exact zp_none
  | succ n ih =>
    intro σ v1 hs
    rw [zb_Findings_listRaces_16]
    refine zp_ite (fun _ => ?_) fun _ => ?_
    ·
      exact zp_some hs
    ·
      refine zp_chk fun _ => ?_
      refine zp_ite (fun _ => ?_) fun _ => ?_
      ·
        exact wx_b_Findings_listRaces_56 (ih) hs
      ·
        refine zp_bind (zp_mono (wx_f_Numbers_add  hs) fun r6 hr6 => ?_)
        refine zp_chk fun _ => ?_
        refine zp_bind (zp_mono (wx_f_Numbers_add_c1  hr6) fun r8 hr8 => ?_)
        exact wx_b_Findings_listRaces_56 (ih) hr8
theorem wx_f_Findings_listRaces {σ0 : zS} {N : Nat} {σ : zS}  (hs : FX σ0 σ) : zp (zf_Findings_listRaces N σ) (fun r => FX σ0 r) := by
  unfold zf_Findings_listRaces
  refine zp_bind (zp_mono (wx_f_Numbers_clear_c3  hs) fun r1 hr1 => ?_)
  refine zp_bind (zp_mono (wx_f_Numbers_clear_c4  hr1) fun r2 hr2 => ?_)
  exact wx_b_Findings_listRaces_16  _ _ _ hr2
theorem wx_f_Numbers_clear_c5 {σ0 : zS} {σ : zS}  (hs : FX σ0 σ) : zp (zf_Numbers_clear_c5 σ) (fun r => FX σ0 r) := by
  unfold zf_Numbers_clear_c5
  exact zp_some (FX.up (by decide) hs)
theorem wx_f_Numbers_clear_c6 {σ0 : zS} {σ : zS}  (hs : FX σ0 σ) : zp (zf_Numbers_clear_c6 σ) (fun r => FX σ0 r) := by
  unfold zf_Numbers_clear_c6
  exact zp_some (FX.up (by decide) hs)
theorem wx_b_Arrays_fill_c6_5 {σ0 : zS} {N : Nat}  : ∀ (n : Nat) (σ : zS) (v1 : Int32) (v2 : Int32) (v3 : Int32), FX σ0 σ → zp (zb_Arrays_fill_c6_5 N n σ v1 v2 v3) (fun r => FX σ0 r) := by
  intro n
  induction n with
  | zero => intro _ _ _ _ _; exact zp_none
  | succ n ih =>
    intro σ v1 v2 v3 hs
    rw [zb_Arrays_fill_c6_5]
    refine zp_ite (fun _ => ?_) fun _ => ?_
    ·
      exact zp_some hs
    ·
      refine zp_chk fun _ => ?_
      exact ih _ _ _ _ (FX.up (by decide) hs)
theorem wx_f_Arrays_fill_c6 {σ0 : zS} {N : Nat} {σ : zS} {x2 : Int32}  (hs : FX σ0 σ) : zp (zf_Arrays_fill_c6 N σ x2) (fun r => FX σ0 r) := by
  unfold zf_Arrays_fill_c6
  exact wx_b_Arrays_fill_c6_5  _ _ _ _ _ hs
theorem wx_f_Numbers_add_c2 {σ0 : zS} {σ : zS} {x1 : Int32}  (hs : FX σ0 σ) : zp (zf_Numbers_add_c2 σ x1) (fun r => FX σ0 r) := by
  unfold zf_Numbers_add_c2
  refine zp_ite (fun _ => ?_) fun _ => ?_
  ·
    exact zp_some hs
  ·
    refine zp_ite (fun _ => ?_) fun _ => ?_
    ·
      exact zp_some hs
    ·
      refine zp_chk fun _ => ?_
      exact zp_some (FX.up (by decide) (FX.up (by decide) hs))
theorem wx_f_Numbers_add_c3 {σ0 : zS} {σ : zS} {x1 : Int32}  (hs : FX σ0 σ) : zp (zf_Numbers_add_c3 σ x1) (fun r => FX σ0 r) := by
  unfold zf_Numbers_add_c3
  refine zp_ite (fun _ => ?_) fun _ => ?_
  ·
    exact zp_some hs
  ·
    refine zp_ite (fun _ => ?_) fun _ => ?_
    ·
      exact zp_some hs
    ·
      refine zp_chk fun _ => ?_
      exact zp_some (FX.up (by decide) (FX.up (by decide) hs))
theorem wx_f_Outcomes_note {σ0 : zS} {N : Nat} {σ : zS} {x1 : Int32} {x2 : Int32}  (hs : FX σ0 σ) : zp (zf_Outcomes_note N σ x1 x2) (fun r => FX σ0 r) := by
  unfold zf_Outcomes_note
  refine zp_bind fun r1 _ => ?_
  refine zp_chk fun _ => ?_
  refine zp_ite (fun _ => ?_) fun _ => ?_
  ·
    exact zp_some hs
  ·
    refine zp_bind (zp_mono (wx_f_Numbers_add_c2  hs) fun r4 hr4 => ?_)
    refine zp_bind (zp_mono (wx_f_Numbers_add_c3  hr4) fun r5 hr5 => ?_)
    refine zp_chk fun _ => ?_
    exact zp_some (FX.up (by decide) hr5)
theorem wx_b_Outcomes_gather_57 {σ0 : zS} {k24 : zS → Int32 → Option (zS)} {N : Nat} {σ : zS} {v2 : Int32} (hk24 : ∀ (y0 : zS) (y1 : Int32), FX σ0 y0 → zp (k24 y0 y1) (fun r => FX σ0 r)) (hs : FX σ0 σ) : zp (zb_Outcomes_gather_57 k24 N σ v2) (fun r => FX σ0 r) := by
  unfold zb_Outcomes_gather_57
  exact hk24 _ _ hs
theorem wx_b_Outcomes_gather_24 {σ0 : zS} {N : Nat}  : ∀ (n : Nat) (σ : zS) (v2 : Int32), FX σ0 σ → zp (zb_Outcomes_gather_24 N n σ v2) (fun r => FX σ0 r) := by
  intro n
  induction n with
  | zero => intro _ _ _; exact zp_none
  | succ n ih =>
    intro σ v2 hs
    rw [zb_Outcomes_gather_24]
    refine zp_ite (fun _ => ?_) fun _ => ?_
    ·
      exact zp_some hs
    ·
      refine zp_bind fun r5 _ => ?_
      refine zp_ite (fun _ => ?_) fun _ => ?_
      ·
        exact wx_b_Outcomes_gather_57 (ih) hs
      ·
        refine zp_bind (zp_mono (wx_f_Space_load  hs) fun r7 hr7 => ?_)
        refine zp_bind fun r8 _ => ?_
        refine zp_bind (zp_mono (wx_f_Outcomes_note  hr7) fun r9 hr9 => ?_)
        exact wx_b_Outcomes_gather_57 (ih) hr9
theorem wx_f_Outcomes_gather {σ0 : zS} {N : Nat} {σ : zS}  (hs : FX σ0 σ) : zp (zf_Outcomes_gather N σ) (fun r => FX σ0 r) := by
  unfold zf_Outcomes_gather
  refine zp_bind (zp_mono (wx_f_Numbers_clear_c5  hs) fun r1 hr1 => ?_)
  refine zp_bind (zp_mono (wx_f_Numbers_clear_c6  hr1) fun r2 hr2 => ?_)
  refine zp_bind (zp_mono (wx_f_Arrays_fill_c6  hr2) fun r3 hr3 => ?_)
  exact wx_b_Outcomes_gather_24  _ _ _ hr3
theorem wx_f_Findings_noteRace {σ0 : zS} {σ : zS} {x1 : Int32} {x2 : Int32} {x3 : Int32}  (hs : FX σ0 σ) : zp (zf_Findings_noteRace σ x1 x2 x3) (fun r => FX σ0 r) := by
  unfold zf_Findings_noteRace
  refine zp_bind fun r1 _ => ?_
  refine zp_ite (fun _ => ?_) fun _ => ?_
  ·
    exact zp_some hs
  ·
    refine zp_ite (fun _ => ?_) fun _ => ?_
    ·
      exact zp_some hs
    ·
      refine zp_ite (fun _ => ?_) fun _ => ?_
      ·
        exact zp_some hs
      ·
        refine zp_chk fun _ => ?_
        refine zp_ite (fun _ => ?_) fun _ => ?_
        ·
          exact zp_some hs
        ·
          refine zp_chk fun _ => ?_
          exact zp_some (FX.up (by decide) hs)
theorem wx_b_Findings_noteRaces_83 {σ0 : zS} {k17 : zS → Int32 → Int32 → Int32 → Option (zS)} {N : Nat} {σ : zS} {v1 : Int32} {v2 : Int32} {v3 : Int32} (hk17 : ∀ (y0 : zS) (y1 : Int32) (y2 : Int32) (y3 : Int32), FX σ0 y0 → zp (k17 y0 y1 y2 y3) (fun r => FX σ0 r)) (hs : FX σ0 σ) : zp (zb_Findings_noteRaces_83 k17 N σ v1 v2 v3) (fun r => FX σ0 r) := by
  unfold zb_Findings_noteRaces_83
  exact hk17 _ _ _ _ hs
theorem wx_b_Findings_noteRaces_17 {σ0 : zS} {k2 : zS → Int32 → Int32 → Option (zS)} {N : Nat} (hk2 : ∀ (y0 : zS) (y1 : Int32) (y2 : Int32), FX σ0 y0 → zp (k2 y0 y1 y2) (fun r => FX σ0 r)) : ∀ (n : Nat) (σ : zS) (v1 : Int32) (v2 : Int32) (v3 : Int32), FX σ0 σ → zp (zb_Findings_noteRaces_17 k2 N n σ v1 v2 v3) (fun r => FX σ0 r) := by
  intro n
  induction n with
  | zero => intro _ _ _ _ _; exact zp_none
  | succ n ih =>
    intro σ v1 v2 v3 hs
    rw [zb_Findings_noteRaces_17]
    refine zp_ite (fun _ => ?_) fun _ => ?_
    ·
      exact hk2 _ _ _ hs
    ·
      refine zp_bind fun r3 _ => ?_
      refine zp_ite (fun _ => ?_) fun _ => ?_
      ·
        exact wx_b_Findings_noteRaces_83 (ih) hs
      ·
        refine zp_bind fun r5 _ => ?_
        refine zp_ite (fun _ => ?_) fun _ => ?_
        ·
          exact wx_b_Findings_noteRaces_83 (ih) hs
        ·
          refine zp_bind fun r7 _ => ?_
          refine zp_bind fun r8 _ => ?_
          refine zp_bind (zp_mono (wx_f_Findings_noteRace  hs) fun r9 hr9 => ?_)
          exact wx_b_Findings_noteRaces_83 (ih) hr9
theorem wx_b_Findings_noteRaces_2 {σ0 : zS} {N : Nat}  : ∀ (n : Nat) (σ : zS) (v1 : Int32) (v2 : Int32), FX σ0 σ → zp (zb_Findings_noteRaces_2 N n σ v1 v2) (fun r => FX σ0 r) := by
  intro n
  induction n with
  | zero => intro _ _ _ _; exact zp_none
  | succ n ih =>
    intro σ v1 v2 hs
    rw [zb_Findings_noteRaces_2]
    refine zp_ite (fun _ => ?_) fun _ => ?_
    ·
      exact zp_some hs
    ·
      exact wx_b_Findings_noteRaces_17 (ih) _ _ _ _ _ hs
theorem wx_f_Findings_noteRaces {σ0 : zS} {N : Nat} {σ : zS} {x1 : Int32}  (hs : FX σ0 σ) : zp (zf_Findings_noteRaces N σ x1) (fun r => FX σ0 r) := by
  unfold zf_Findings_noteRaces
  exact wx_b_Findings_noteRaces_2  _ _ _ _ hs
theorem wx_f_Numbers_add_c4 {σ0 : zS} {σ : zS} {x1 : Int32}  (hs : FX σ0 σ) : zp (zf_Numbers_add_c4 σ x1) (fun r => FX σ0 r) := by
  unfold zf_Numbers_add_c4
  refine zp_ite (fun _ => ?_) fun _ => ?_
  ·
    exact zp_some hs
  ·
    refine zp_ite (fun _ => ?_) fun _ => ?_
    ·
      exact zp_some hs
    ·
      refine zp_chk fun _ => ?_
      exact zp_some (FX.up (by decide) (FX.up (by decide) hs))
theorem wx_f_Numbers_add_c5 {σ0 : zS} {σ : zS} {x1 : Int32}  (hs : FX σ0 σ) : zp (zf_Numbers_add_c5 σ x1) (fun r => FX σ0 r) := by
  unfold zf_Numbers_add_c5
  refine zp_ite (fun _ => ?_) fun _ => ?_
  ·
    exact zp_some hs
  ·
    refine zp_ite (fun _ => ?_) fun _ => ?_
    ·
      exact zp_some hs
    ·
      refine zp_chk fun _ => ?_
      exact zp_some (FX.up (by decide) (FX.up (by decide) hs))
theorem wx_f_Numbers_add_c6 {σ0 : zS} {σ : zS} {x1 : Int32}  (hs : FX σ0 σ) : zp (zf_Numbers_add_c6 σ x1) (fun r => FX σ0 r) := by
  unfold zf_Numbers_add_c6
  refine zp_ite (fun _ => ?_) fun _ => ?_
  ·
    exact zp_some hs
  ·
    refine zp_ite (fun _ => ?_) fun _ => ?_
    ·
      exact zp_some hs
    ·
      refine zp_chk fun _ => ?_
      exact zp_some (FX.up (by decide) (FX.up (by decide) hs))
theorem wx_b_Findings_gather_97 {σ0 : zS} {k31 : zS → Int32 → Option (zS)} {N : Nat} {σ : zS} {v2 : Int32} (hk31 : ∀ (y0 : zS) (y1 : Int32), FX σ0 y0 → zp (k31 y0 y1) (fun r => FX σ0 r)) (hs : FX σ0 σ) : zp (zb_Findings_gather_97 k31 N σ v2) (fun r => FX σ0 r) := by
  unfold zb_Findings_gather_97
  refine zp_bind (zp_mono (wx_f_Findings_noteRaces  hs) fun r13 hr13 => ?_)
  exact hk31 _ _ hr13
theorem wx_b_Findings_gather_91_1 {σ0 : zS} {k31 : zS → Int32 → Option (zS)} {N : Nat} {σ : zS} {v2 : Int32} (hk31 : ∀ (y0 : zS) (y1 : Int32), FX σ0 y0 → zp (k31 y0 y1) (fun r => FX σ0 r)) (hs : FX σ0 σ) : zp (zb_Findings_gather_91_1 k31 N σ v2) (fun r => FX σ0 r) := by
  unfold zb_Findings_gather_91_1
  refine zp_bind (zp_mono (wx_f_Numbers_add_c5  hs) fun r17 hr17 => ?_)
  exact wx_b_Findings_gather_97 (hk31) hr17
theorem wx_b_Findings_gather_91 {σ0 : zS} {k31 : zS → Int32 → Option (zS)} {N : Nat} {σ : zS} {v2 : Int32} (hk31 : ∀ (y0 : zS) (y1 : Int32), FX σ0 y0 → zp (k31 y0 y1) (fun r => FX σ0 r)) (hs : FX σ0 σ) : zp (zb_Findings_gather_91 k31 N σ v2) (fun r => FX σ0 r) := by
  unfold zb_Findings_gather_91
  refine zp_bind (zp_mono (wx_f_Numbers_add_c4  hs) fun r16 hr16 => ?_)
  exact wx_b_Findings_gather_97 (hk31) hr16
theorem wx_b_Findings_gather_62 {σ0 : zS} {k31 : zS → Int32 → Option (zS)} {N : Nat} {σ : zS} {v2 : Int32} (hk31 : ∀ (y0 : zS) (y1 : Int32), FX σ0 y0 → zp (k31 y0 y1) (fun r => FX σ0 r)) (hs : FX σ0 σ) : zp (zb_Findings_gather_62 k31 N σ v2) (fun r => FX σ0 r) := by
  unfold zb_Findings_gather_62
  refine zp_bind fun r11 _ => ?_
  refine zp_ite (fun _ => ?_) fun _ => ?_
  ·
    exact wx_b_Findings_gather_97 (hk31) hs
  ·
    refine zp_bind fun r14 _ => ?_
    refine zp_ite (fun _ => ?_) fun _ => ?_
    ·
      exact wx_b_Findings_gather_91 (hk31) hs
    ·
      exact wx_b_Findings_gather_91_1 (hk31) hs
theorem wx_b_Findings_gather_31 {σ0 : zS} {N : Nat}  : ∀ (n : Nat) (σ : zS) (v2 : Int32), FX σ0 σ → zp (zb_Findings_gather_31 N n σ v2) (fun r => FX σ0 r) := by
  intro n
  induction n with
  | zero => intro _ _ _; exact zp_none
  | succ n ih =>
    intro σ v2 hs
    rw [zb_Findings_gather_31]
    refine zp_ite (fun _ => ?_) fun _ => ?_
    ·
      refine zp_bind (zp_mono (wx_f_Findings_listRaces  hs) fun r6 hr6 => ?_)
      refine zp_bind (zp_mono (wx_f_Outcomes_gather  hr6) fun r7 hr7 => ?_)
      exact zp_some hr7
    ·
      refine zp_bind (zp_mono (wx_f_Space_load  hs) fun r8 hr8 => ?_)
      refine zp_bind fun r9 _ => ?_
      refine zp_ite (fun _ => ?_) fun _ => ?_
      ·
        exact wx_b_Findings_gather_62 (ih) hr8
      ·
        refine zp_bind (zp_mono (wx_f_Numbers_add_c6  hr8) fun r18 hr18 => ?_)
        exact wx_b_Findings_gather_62 (ih) hr18
theorem wx_f_Findings_gather {σ0 : zS} {N : Nat} {σ : zS}  (hs : FX σ0 σ) : zp (zf_Findings_gather N σ) (fun r => FX σ0 r) := by
  unfold zf_Findings_gather
  refine zp_bind (zp_mono (wx_f_Numbers_clear  hs) fun r1 hr1 => ?_)
  refine zp_bind (zp_mono (wx_f_Numbers_clear_c1  hr1) fun r2 hr2 => ?_)
  refine zp_bind (zp_mono (wx_f_Numbers_clear_c2  hr2) fun r3 hr3 => ?_)
  refine zp_bind (zp_mono (wx_f_Arrays_fill_c5  hr3) fun r4 hr4 => ?_)
  exact wx_b_Findings_gather_31  _ _ _ hr4
theorem wx_b_X_run_57 {σ0 : zS} {N : Nat} {σ : zS}  (hs : FX σ0 σ) : zp (zb_X_run_57 N σ) (fun r => FX σ0 r.2) := by
  unfold zb_X_run_57
  refine zp_ite (fun _ => ?_) fun _ => ?_
  ·
    exact zp_some hs
  ·
    exact zp_some hs
theorem wx_f_X_run {σ0 : zS} {N : Nat} {σ : zS}  (hs : FX σ0 σ) : zp (zf_X_run N σ) (fun r => FX σ0 r.2) := by
  unfold zf_X_run
  refine zp_ite (fun _ => ?_) fun _ => ?_
  ·
    refine zp_ite (fun _ => ?_) fun _ => ?_
    ·
      exact wx_b_X_run_57  (FX.u2 (by decide) hs)
    ·
      refine zp_bind (zp_mono (wx_f_Space_explore  (FX.u2 (by decide) (FX.u2 (by decide) hs))) fun r4 hr4 => ?_)
      refine zp_chk fun _ => ?_
      refine zp_ite (fun _ => ?_) fun _ => ?_
      ·
        exact wx_b_X_run_57  (FX.u2 (by decide) hr4)
      ·
        refine zp_bind (zp_mono (wx_f_Findings_gather  (FX.u2 (by decide) hr4)) fun r7 hr7 => ?_)
        exact wx_b_X_run_57  hr7
  ·
    exact zp_some hs
theorem wx_b_Space_wayTo_90 {σ0 : zS} {k51 : zS → Int32 → Int32 → Int32 → Option (Int32 × zS)} {N : Nat} {σ : zS} {v3 : Int32} {v4 : Int32} {v5 : Int32} (hk51 : ∀ (y0 : zS) (y1 : Int32) (y2 : Int32) (y3 : Int32), FX σ0 y0 → zp (k51 y0 y1 y2 y3) (fun r => FX σ0 r.2)) (hs : FX σ0 σ) : zp (zb_Space_wayTo_90 k51 N σ v3 v4 v5) (fun r => FX σ0 r.2) := by
  unfold zb_Space_wayTo_90
  refine zp_chk fun _ => ?_
  exact hk51 _ _ _ _ hs
theorem wx_b_Space_wayTo_51 {σ0 : zS} {N : Nat}  : ∀ (n : Nat) (σ : zS) (v3 : Int32) (v4 : Int32) (v5 : Int32), FX σ0 σ → zp (zb_Space_wayTo_51 N n σ v3 v4 v5) (fun r => FX σ0 r.2) := by
  intro n
  induction n with
  | zero => intro _ _ _ _ _; exact zp_none
  | succ n ih =>
    intro σ v3 v4 v5 hs
    rw [zb_Space_wayTo_51]
    refine zp_ite (fun _ => ?_) fun _ => ?_
    ·
      exact zp_some hs
    ·
      refine zp_bind fun r3 _ => ?_
      refine zp_ite (fun _ => ?_) fun _ => ?_
      ·
        exact zp_some hs
      ·
        refine zp_ite (fun _ => ?_) fun _ => ?_
        ·
          exact zp_some hs
        ·
          refine zp_ite (fun _ => ?_) fun _ => ?_
          ·
            exact wx_b_Space_wayTo_90 (ih) hs
          ·
            refine zp_chk fun _ => ?_
            refine zp_chk fun _ => ?_
            exact wx_b_Space_wayTo_90 (ih) (FX.up (by decide) hs)
theorem wx_b_Space_wayTo_43 {σ0 : zS} {N : Nat} {σ : zS} {v1 : Int32} {v3 : Int32}  (hs : FX σ0 σ) : zp (zb_Space_wayTo_43 N σ v1 v3) (fun r => FX σ0 r.2) := by
  unfold zb_Space_wayTo_43
  exact wx_b_Space_wayTo_51  _ _ _ _ _ hs
theorem wx_b_Space_wayTo_5 {σ0 : zS} {N : Nat}  : ∀ (n : Nat) (σ : zS) (v1 : Int32) (v3 : Int32) (v4 : Int32), FX σ0 σ → zp (zb_Space_wayTo_5 N n σ v1 v3 v4) (fun r => FX σ0 r.2) := by
  intro n
  induction n with
  | zero => intro _ _ _ _ _; exact zp_none
  | succ n ih =>
    intro σ v1 v3 v4 hs
    rw [zb_Space_wayTo_5]
    refine zp_ite (fun _ => ?_) fun _ => ?_
    ·
      exact wx_b_Space_wayTo_43  hs
    ·
      refine zp_bind fun r10 _ => ?_
      refine zp_ite (fun _ => ?_) fun _ => ?_
      ·
        exact wx_b_Space_wayTo_43  hs
      ·
        refine zp_ite (fun _ => ?_) fun _ => ?_
        ·
          exact wx_b_Space_wayTo_43  hs
        ·
          refine zp_chk fun _ => ?_
          exact ih _ _ _ _ hs
theorem wx_f_Space_wayTo {σ0 : zS} {N : Nat} {σ : zS} {x1 : Int32}  (hs : FX σ0 σ) : zp (zf_Space_wayTo N σ x1) (fun r => FX σ0 r.2) := by
  unfold zf_Space_wayTo
  exact wx_b_Space_wayTo_5  _ _ _ _ _ hs
theorem wx_f_X_show {σ0 : zS} {N : Nat} {σ : zS} {x1 : Int32} {x2 : Int32}  (hs : FX σ0 σ) : zp (zf_X_show N σ x1 x2) (fun r => FX σ0 r.2) := by
  unfold zf_X_show
  refine zp_ite (fun _ => ?_) fun _ => ?_
  ·
    refine zp_bind fun r2 _ => ?_
    refine zp_ite (fun _ => ?_) fun _ => ?_
    ·
      refine zp_bind (zp_mono (wx_f_Space_wayTo  hs) fun r4 hr4 => ?_)
      exact zp_some (FX.u2 (by decide) hr4)
    ·
      exact zp_some hs
  ·
    exact zp_some hs
theorem wx_f_X_thread {σ0 : zS} {N : Nat} {σ : zS} {x1 : Int32} {x2 : Int32} {x3 : Int32}  (hs : FX σ0 σ) : zp (zf_X_thread N σ x1 x2 x3) (fun r => FX σ0 r.2) := by
  unfold zf_X_thread
  refine zp_ite (fun _ => ?_) fun _ => ?_
  ·
    refine zp_bind fun r2 _ => ?_
    refine zp_ite (fun _ => ?_) fun _ => ?_
    ·
      exact zp_some hs
    ·
      refine zp_bind fun r4 _ => ?_
      refine zp_ite (fun _ => ?_) fun _ => ?_
      ·
        refine zp_bind (zp_mono (wx_f_Space_load  hs) fun r6 hr6 => ?_)
        refine zp_ite (fun _ => ?_) fun _ => ?_
        ·
          refine zp_bind fun r19 _ => ?_
          exact zp_some hr6
        ·
          refine zp_ite (fun _ => ?_) fun _ => ?_
          ·
            refine zp_bind fun r18 _ => ?_
            exact zp_some hr6
          ·
            refine zp_ite (fun _ => ?_) fun _ => ?_
            ·
              refine zp_bind fun r16 _ => ?_
              refine zp_ite (fun _ => ?_) fun _ => ?_
              ·
                exact zp_some hr6
              ·
                exact zp_some hr6
            ·
              refine zp_ite (fun _ => ?_) fun _ => ?_
              ·
                refine zp_bind fun r15 _ => ?_
                exact zp_some hr6
              ·
                refine zp_ite (fun _ => ?_) fun _ => ?_
                ·
                  refine zp_bind fun r14 _ => ?_
                  exact zp_some hr6
                ·
                  refine zp_ite (fun _ => ?_) fun _ => ?_
                  ·
                    refine zp_bind fun r13 _ => ?_
                    exact zp_some hr6
                  ·
                    exact zp_some hr6
      ·
        exact zp_some hs
  ·
    exact zp_some hs
theorem wx_f_X_field {σ0 : zS} {N : Nat} {σ : zS} {x1 : Int32} {x2 : Int32}  (hs : FX σ0 σ) : zp (zf_X_field N σ x1 x2) (fun r => FX σ0 r.2) := by
  unfold zf_X_field
  refine zp_ite (fun _ => ?_) fun _ => ?_
  ·
    refine zp_ite (fun _ => ?_) fun _ => ?_
    ·
      exact zp_some hs
    ·
      refine zp_ite (fun _ => ?_) fun _ => ?_
      ·
        exact zp_some hs
      ·
        refine zp_bind fun r4 _ => ?_
        refine zp_ite (fun _ => ?_) fun _ => ?_
        ·
          refine zp_bind (zp_mono (wx_f_Space_load  hs) fun r6 hr6 => ?_)
          refine zp_bind fun r7 _ => ?_
          exact zp_some hr6
        ·
          exact zp_some hs
  ·
    exact zp_some hs
theorem wx_f_X_owner {σ0 : zS} {N : Nat} {σ : zS} {x1 : Int32} {x2 : Int32}  (hs : FX σ0 σ) : zp (zf_X_owner N σ x1 x2) (fun r => FX σ0 r.2) := by
  unfold zf_X_owner
  refine zp_ite (fun _ => ?_) fun _ => ?_
  ·
    refine zp_ite (fun _ => ?_) fun _ => ?_
    ·
      exact zp_some hs
    ·
      refine zp_ite (fun _ => ?_) fun _ => ?_
      ·
        exact zp_some hs
      ·
        refine zp_bind fun r4 _ => ?_
        refine zp_ite (fun _ => ?_) fun _ => ?_
        ·
          refine zp_bind (zp_mono (wx_f_Space_load  hs) fun r6 hr6 => ?_)
          refine zp_bind fun r7 _ => ?_
          exact zp_some hr6
        ·
          exact zp_some hs
  ·
    exact zp_some hs
theorem wx_f_X_stuck {σ0 : zS} {N : Nat} {σ : zS} {x1 : Int32}  (hs : FX σ0 σ) : zp (zf_X_stuck N σ x1) (fun r => FX σ0 r.2) := by
  unfold zf_X_stuck
  refine zp_ite (fun _ => ?_) fun _ => ?_
  ·
    refine zp_bind fun r2 _ => ?_
    refine zp_ite (fun _ => ?_) fun _ => ?_
    ·
      exact zp_some hs
    ·
      refine zp_bind fun r4 _ => ?_
      refine zp_ite (fun _ => ?_) fun _ => ?_
      ·
        refine zp_bind (zp_mono (wx_f_Space_load  hs) fun r6 hr6 => ?_)
        refine zp_bind fun r7 _ => ?_
        refine zp_ite (fun _ => ?_) fun _ => ?_
        ·
          refine zp_bind fun r9 _ => ?_
          refine zp_ite (fun _ => ?_) fun _ => ?_
          ·
            refine zp_bind fun r11 _ => ?_
            refine zp_ite (fun _ => ?_) fun _ => ?_
            ·
              exact zp_some hr6
            ·
              exact zp_some hr6
          ·
            exact zp_some hr6
        ·
          exact zp_some hr6
      ·
        exact zp_some hs
  ·
    exact zp_some hs
theorem wx_b_Arrays_fill_c7_5 {σ0 : zS} {N : Nat}  : ∀ (n : Nat) (σ : zS) (v1 : Int32) (v2 : Int32) (v3 : Int32), FX σ0 σ → zp (zb_Arrays_fill_c7_5 N n σ v1 v2 v3) (fun r => FX σ0 r) := by
  intro n
  induction n with
  | zero => intro _ _ _ _ _; exact zp_none
  | succ n ih =>
    intro σ v1 v2 v3 hs
    rw [zb_Arrays_fill_c7_5]
    refine zp_ite (fun _ => ?_) fun _ => ?_
    ·
      exact zp_some hs
    ·
      refine zp_chk fun _ => ?_
      exact ih _ _ _ _ (FX.up (by decide) hs)
theorem wx_f_Arrays_fill_c7 {σ0 : zS} {N : Nat} {σ : zS} {x2 : Int32}  (hs : FX σ0 σ) : zp (zf_Arrays_fill_c7 N σ x2) (fun r => FX σ0 r) := by
  unfold zf_Arrays_fill_c7
  exact wx_b_Arrays_fill_c7_5  _ _ _ _ _ hs
theorem wx_f_Space_note_c1 {σ0 : zS} {N : Nat} {σ : zS} {x1 : Int32}  (hs : FX σ0 σ) : zp (zf_Space_note_c1 N σ x1) (fun r => FX σ0 r.2) := by
  unfold zf_Space_note_c1
  refine zp_bind fun r1 _ => ?_
  refine zp_chk fun _ => ?_
  refine zp_ite (fun _ => ?_) fun _ => ?_
  ·
    refine zp_ite (fun _ => ?_) fun _ => ?_
    ·
      exact zp_some hs
    ·
      refine zp_ite (fun _ => ?_) fun _ => ?_
      ·
        refine zp_chk fun _ => ?_
        refine zp_chk fun _ => ?_
        refine zp_chk fun _ => ?_
        exact zp_some (FX.up (by decide) (FX.up (by decide) (FX.up (by decide) (FX.cp (by decide) hs))))
      ·
        exact zp_some hs
  ·
    exact zp_some hs
theorem wx_b_Machine_load_c1_130 {σ0 : zS} {k34 : zS → Int32 → Option (zS)} {N : Nat} {σ : zS} {v3 : Int32} (hk34 : ∀ (y0 : zS) (y1 : Int32), FX σ0 y0 → zp (k34 y0 y1) (fun r => FX σ0 r)) (hs : FX σ0 σ) : zp (zb_Machine_load_c1_130 k34 N σ v3) (fun r => FX σ0 r) := by
  unfold zb_Machine_load_c1_130
  exact hk34 _ _ hs
theorem wx_b_Machine_load_c1_124 {σ0 : zS} {k95 : zS → Int32 → Int32 → Int32 → Option (zS)} {N : Nat} {σ : zS} {v3 : Int32} {v5 : Int32} {v6 : Int32} (hk95 : ∀ (y0 : zS) (y1 : Int32) (y2 : Int32) (y3 : Int32), FX σ0 y0 → zp (k95 y0 y1 y2 y3) (fun r => FX σ0 r)) (hs : FX σ0 σ) : zp (zb_Machine_load_c1_124 k95 N σ v3 v5 v6) (fun r => FX σ0 r) := by
  unfold zb_Machine_load_c1_124
  exact hk95 _ _ _ _ hs
theorem wx_b_Machine_load_c1_95 {σ0 : zS} {k34 : zS → Int32 → Option (zS)} {N : Nat} (hk34 : ∀ (y0 : zS) (y1 : Int32), FX σ0 y0 → zp (k34 y0 y1) (fun r => FX σ0 r)) : ∀ (n : Nat) (σ : zS) (v3 : Int32) (v5 : Int32) (v6 : Int32), FX σ0 σ → zp (zb_Machine_load_c1_95 k34 N n σ v3 v5 v6) (fun r => FX σ0 r) := by
  intro n
  induction n with
  | zero => intro _ _ _ _ _; exact zp_none
  | succ n ih =>
    intro σ v3 v5 v6 hs
    rw [zb_Machine_load_c1_95]
    refine zp_ite (fun _ => ?_) fun _ => ?_
    ·
      exact wx_b_Machine_load_c1_130 (hk34) hs
    ·
      refine zp_ite (fun _ => ?_) fun _ => ?_
      ·
        exact wx_b_Machine_load_c1_130 (hk34) hs
      ·
        refine zp_ite (fun _ => ?_) fun _ => ?_
        ·
          exact wx_b_Machine_load_c1_124 (ih) hs
        ·
          refine zp_chk fun _ => ?_
          exact wx_b_Machine_load_c1_124 (ih) (FX.up (by decide) hs)
theorem wx_b_Machine_load_c1_34 {σ0 : zS} {N : Nat}  : ∀ (n : Nat) (σ : zS) (v3 : Int32), FX σ0 σ → zp (zb_Machine_load_c1_34 N n σ v3) (fun r => FX σ0 r) := by
  intro n
  induction n with
  | zero => intro _ _ _; exact zp_none
  | succ n ih =>
    intro σ v3 hs
    rw [zb_Machine_load_c1_34]
    refine zp_ite (fun _ => ?_) fun _ => ?_
    ·
      exact zp_some hs
    ·
      refine zp_chk fun _ => ?_
      refine zp_chk fun _ => ?_
      refine zp_bind fun r8 _ => ?_
      refine zp_chk fun _ => ?_
      refine zp_bind fun r10 _ => ?_
      exact wx_b_Machine_load_c1_95 (ih) _ _ _ _ _ (FX.up (by decide) (FX.up (by decide) hs))
theorem wx_f_Machine_load_c1 {σ0 : zS} {N : Nat} {σ : zS} {x2 : Int32}  (hs : FX σ0 σ) : zp (zf_Machine_load_c1 N σ x2) (fun r => FX σ0 r) := by
  unfold zf_Machine_load_c1
  refine zp_ite (fun _ => ?_) fun _ => ?_
  ·
    exact zp_some hs
  ·
    refine zp_ite (fun _ => ?_) fun _ => ?_
    ·
      refine zp_chk fun _ => ?_
      refine zp_bind (zp_mono (wx_f_Arrays_fill_c4  (FX.cp (by decide) hs)) fun r4 hr4 => ?_)
      exact wx_b_Machine_load_c1_34  _ _ _ hr4
    ·
      exact zp_some hs
theorem wx_f_Space_load_c1 {σ0 : zS} {N : Nat} {σ : zS} {x1 : Int32}  (hs : FX σ0 σ) : zp (zf_Space_load_c1 N σ x1) (fun r => FX σ0 r) := by
  unfold zf_Space_load_c1
  refine zp_bind fun r1 _ => ?_
  refine zp_ite (fun _ => ?_) fun _ => ?_
  ·
    exact zp_some hs
  ·
    refine zp_bind (zp_mono (wx_f_Machine_load_c1  hs) fun r3 hr3 => ?_)
    exact zp_some hr3
theorem wx_b_Space_exploreFrom_c1_95 {σ0 : zS} {k20 : zS → Int32 → Int32 → Int32 → Int32 → Int32 → Option (Int32 × zS)} {N : Nat} {σ : zS} {v1 : Int32} {v2 : Int32} {v3 : Int32} {v4 : Int32} {v5 : Int32} (hk20 : ∀ (y0 : zS) (y1 : Int32) (y2 : Int32) (y3 : Int32) (y4 : Int32) (y5 : Int32), FX σ0 y0 → zp (k20 y0 y1 y2 y3 y4 y5) (fun r => FX σ0 r.2)) (hs : FX σ0 σ) : zp (zb_Space_exploreFrom_c1_95 k20 N σ v1 v2 v3 v4 v5) (fun r => FX σ0 r.2) := by
  unfold zb_Space_exploreFrom_c1_95
  exact hk20 _ _ _ _ _ _ hs
theorem wx_b_Space_exploreFrom_c1_48 {σ0 : zS} {k20 : zS → Int32 → Int32 → Int32 → Int32 → Int32 → Option (Int32 × zS)} {N : Nat} {σ : zS} {v1 : Int32} {v2 : Int32} {v3 : Int32} {v4 : Int32} {v5 : Int32} {s0 : Int32} (hk20 : ∀ (y0 : zS) (y1 : Int32) (y2 : Int32) (y3 : Int32) (y4 : Int32) (y5 : Int32), FX σ0 y0 → zp (k20 y0 y1 y2 y3 y4 y5) (fun r => FX σ0 r.2)) (hs : FX σ0 σ) : zp (zb_Space_exploreFrom_c1_48 k20 N σ v1 v2 v3 v4 v5 s0) (fun r => FX σ0 r.2) := by
  unfold zb_Space_exploreFrom_c1_48
  refine zp_ite (fun _ => ?_) fun _ => ?_
  ·
    exact wx_b_Space_exploreFrom_c1_95 (hk20) hs
  ·
    refine zp_bind fun r9 _ => ?_
    refine zp_ite (fun _ => ?_) fun _ => ?_
    ·
      exact wx_b_Space_exploreFrom_c1_95 (hk20) hs
    ·
      refine zp_bind (zp_mono (wx_f_Machine_move  hs) fun r11 hr11 => ?_)
      refine zp_bind (zp_mono (wx_f_Space_note_c1  hr11) fun r12 hr12 => ?_)
      refine zp_ite (fun _ => ?_) fun _ => ?_
      ·
        exact wx_b_Space_exploreFrom_c1_95 (hk20) hr12
      ·
        exact zp_some hr12
theorem wx_b_Space_exploreFrom_c1_43 {σ0 : zS} {k20 : zS → Int32 → Int32 → Int32 → Int32 → Int32 → Option (Int32 × zS)} {N : Nat} {σ : zS} {v1 : Int32} {v2 : Int32} {v3 : Int32} {v4 : Int32} {v5 : Int32} (hk20 : ∀ (y0 : zS) (y1 : Int32) (y2 : Int32) (y3 : Int32) (y4 : Int32) (y5 : Int32), FX σ0 y0 → zp (k20 y0 y1 y2 y3 y4 y5) (fun r => FX σ0 r.2)) (hs : FX σ0 σ) : zp (zb_Space_exploreFrom_c1_43 k20 N σ v1 v2 v3 v4 v5) (fun r => FX σ0 r.2) := by
  unfold zb_Space_exploreFrom_c1_43
  exact wx_b_Space_exploreFrom_c1_48 (hk20) hs
theorem wx_b_Space_exploreFrom_c1_20 {σ0 : zS} {N : Nat}  : ∀ (n : Nat) (σ : zS) (v1 : Int32) (v2 : Int32) (v3 : Int32) (v4 : Int32) (v5 : Int32), FX σ0 σ → zp (zb_Space_exploreFrom_c1_20 N n σ v1 v2 v3 v4 v5) (fun r => FX σ0 r.2) := by
  intro n
  induction n with
  | zero => intro _ _ _ _ _ _ _; exact zp_none
  | succ n ih =>
    intro σ v1 v2 v3 v4 v5 hs
    rw [zb_Space_exploreFrom_c1_20]
    refine zp_ite (fun _ => ?_) fun _ => ?_
    ·
      refine zp_bind fun r4 _ => ?_
      refine zp_ite (fun _ => ?_) fun _ => ?_
      ·
        exact zp_some hs
      ·
        refine zp_chk fun _ => ?_
        exact zp_some (FX.up (by decide) hs)
    ·
      refine zp_ite (fun _ => ?_) fun _ => ?_
      ·
        exact wx_b_Space_exploreFrom_c1_43 (ih) hs
      ·
        refine zp_ite (fun _ => ?_) fun _ => ?_
        ·
          exact wx_b_Space_exploreFrom_c1_48 (ih) hs
        ·
          exact wx_b_Space_exploreFrom_c1_43 (ih) hs
theorem wx_f_Space_exploreFrom_c1 {σ0 : zS} {N : Nat} {σ : zS} {x1 : Int32} {x2 : Int32}  (hs : FX σ0 σ) : zp (zf_Space_exploreFrom_c1 N σ x1 x2) (fun r => FX σ0 r.2) := by
  unfold zf_Space_exploreFrom_c1
  refine zp_bind (zp_mono (wx_f_Space_load_c1  hs) fun r1 hr1 => ?_)
  refine zp_bind fun r2 _ => ?_
  exact wx_b_Space_exploreFrom_c1_20  _ _ _ _ _ _ _ hr1
theorem wx_b_Space_explore_c1_28 {σ0 : zS} {N : Nat}  : ∀ (n : Nat) (σ : zS) (v1 : Int32) (v2 : Int32) (v3 : Int32), FX σ0 σ → zp (zb_Space_explore_c1_28 N n σ v1 v2 v3) (fun r => FX σ0 r.2) := by
  intro n
  induction n with
  | zero => intro _ _ _ _ _; exact zp_none
  | succ n ih =>
    intro σ v1 v2 v3 hs
    rw [zb_Space_explore_c1_28]
    refine zp_ite (fun _ => ?_) fun _ => ?_
    ·
      refine zp_chk fun _ => ?_
      exact zp_some hs
    ·
      refine zp_ite (fun _ => ?_) fun _ => ?_
      ·
        refine zp_chk fun _ => ?_
        exact zp_some hs
      ·
        refine zp_ite (fun _ => ?_) fun _ => ?_
        ·
          refine zp_chk fun _ => ?_
          exact zp_some hs
        ·
          refine zp_bind (zp_mono (wx_f_Space_exploreFrom_c1  hs) fun r10 hr10 => ?_)
          exact ih _ _ _ _ hr10
theorem wx_f_Space_explore_c1 {σ0 : zS} {N : Nat} {σ : zS} {x1 : Int32}  (hs : FX σ0 σ) : zp (zf_Space_explore_c1 N σ x1) (fun r => FX σ0 r.2) := by
  unfold zf_Space_explore_c1
  refine zp_bind (zp_mono (wx_f_Arrays_fill_c7  (FX.up (by decide) hs)) fun r1 hr1 => ?_)
  refine zp_bind (zp_mono (wx_f_Machine_setFirst  hr1) fun r2 hr2 => ?_)
  refine zp_bind (zp_mono (wx_f_Space_note_c1  hr2) fun r3 hr3 => ?_)
  exact wx_b_Space_explore_c1_28  _ _ _ _ _ hr3
theorem wx_f_Numbers_clear_c7 {σ0 : zS} {σ : zS}  (hs : FX σ0 σ) : zp (zf_Numbers_clear_c7 σ) (fun r => FX σ0 r) := by
  unfold zf_Numbers_clear_c7
  exact zp_some (FX.up (by decide) hs)
theorem wx_f_Numbers_clear_c8 {σ0 : zS} {σ : zS}  (hs : FX σ0 σ) : zp (zf_Numbers_clear_c8 σ) (fun r => FX σ0 r) := by
  unfold zf_Numbers_clear_c8
  exact zp_some (FX.up (by decide) hs)
theorem wx_b_Arrays_fill_c8_5 {σ0 : zS} {N : Nat}  : ∀ (n : Nat) (σ : zS) (v1 : Int32) (v2 : Int32) (v3 : Int32), FX σ0 σ → zp (zb_Arrays_fill_c8_5 N n σ v1 v2 v3) (fun r => FX σ0 r) := by
  intro n
  induction n with
  | zero => intro _ _ _ _ _; exact zp_none
  | succ n ih =>
    intro σ v1 v2 v3 hs
    rw [zb_Arrays_fill_c8_5]
    refine zp_ite (fun _ => ?_) fun _ => ?_
    ·
      exact zp_some hs
    ·
      refine zp_chk fun _ => ?_
      exact ih _ _ _ _ (FX.up (by decide) hs)
theorem wx_f_Arrays_fill_c8 {σ0 : zS} {N : Nat} {σ : zS} {x2 : Int32}  (hs : FX σ0 σ) : zp (zf_Arrays_fill_c8 N σ x2) (fun r => FX σ0 r) := by
  unfold zf_Arrays_fill_c8
  exact wx_b_Arrays_fill_c8_5  _ _ _ _ _ hs
theorem wx_f_Numbers_add_c7 {σ0 : zS} {σ : zS} {x1 : Int32}  (hs : FX σ0 σ) : zp (zf_Numbers_add_c7 σ x1) (fun r => FX σ0 r) := by
  unfold zf_Numbers_add_c7
  refine zp_ite (fun _ => ?_) fun _ => ?_
  ·
    exact zp_some hs
  ·
    refine zp_ite (fun _ => ?_) fun _ => ?_
    ·
      exact zp_some hs
    ·
      refine zp_chk fun _ => ?_
      exact zp_some (FX.up (by decide) (FX.up (by decide) hs))
theorem wx_f_Numbers_add_c8 {σ0 : zS} {σ : zS} {x1 : Int32}  (hs : FX σ0 σ) : zp (zf_Numbers_add_c8 σ x1) (fun r => FX σ0 r) := by
  unfold zf_Numbers_add_c8
  refine zp_ite (fun _ => ?_) fun _ => ?_
  ·
    exact zp_some hs
  ·
    refine zp_ite (fun _ => ?_) fun _ => ?_
    ·
      exact zp_some hs
    ·
      refine zp_chk fun _ => ?_
      exact zp_some (FX.up (by decide) (FX.up (by decide) hs))
theorem wx_f_Outcomes_note_c1 {σ0 : zS} {N : Nat} {σ : zS} {x1 : Int32} {x2 : Int32}  (hs : FX σ0 σ) : zp (zf_Outcomes_note_c1 N σ x1 x2) (fun r => FX σ0 r) := by
  unfold zf_Outcomes_note_c1
  refine zp_bind fun r1 _ => ?_
  refine zp_chk fun _ => ?_
  refine zp_ite (fun _ => ?_) fun _ => ?_
  ·
    exact zp_some hs
  ·
    refine zp_bind (zp_mono (wx_f_Numbers_add_c7  hs) fun r4 hr4 => ?_)
    refine zp_bind (zp_mono (wx_f_Numbers_add_c8  hr4) fun r5 hr5 => ?_)
    refine zp_chk fun _ => ?_
    exact zp_some (FX.up (by decide) hr5)
theorem wx_b_Outcomes_gather_c1_57 {σ0 : zS} {k24 : zS → Int32 → Option (zS)} {N : Nat} {σ : zS} {v2 : Int32} (hk24 : ∀ (y0 : zS) (y1 : Int32), FX σ0 y0 → zp (k24 y0 y1) (fun r => FX σ0 r)) (hs : FX σ0 σ) : zp (zb_Outcomes_gather_c1_57 k24 N σ v2) (fun r => FX σ0 r) := by
  unfold zb_Outcomes_gather_c1_57
  exact hk24 _ _ hs
theorem wx_b_Outcomes_gather_c1_24 {σ0 : zS} {N : Nat}  : ∀ (n : Nat) (σ : zS) (v2 : Int32), FX σ0 σ → zp (zb_Outcomes_gather_c1_24 N n σ v2) (fun r => FX σ0 r) := by
  intro n
  induction n with
  | zero => intro _ _ _; exact zp_none
  | succ n ih =>
    intro σ v2 hs
    rw [zb_Outcomes_gather_c1_24]
    refine zp_ite (fun _ => ?_) fun _ => ?_
    ·
      exact zp_some hs
    ·
      refine zp_bind fun r5 _ => ?_
      refine zp_ite (fun _ => ?_) fun _ => ?_
      ·
        exact wx_b_Outcomes_gather_c1_57 (ih) hs
      ·
        refine zp_bind (zp_mono (wx_f_Space_load_c1  hs) fun r7 hr7 => ?_)
        refine zp_bind fun r8 _ => ?_
        refine zp_bind (zp_mono (wx_f_Outcomes_note_c1  hr7) fun r9 hr9 => ?_)
        exact wx_b_Outcomes_gather_c1_57 (ih) hr9
theorem wx_f_Outcomes_gather_c1 {σ0 : zS} {N : Nat} {σ : zS}  (hs : FX σ0 σ) : zp (zf_Outcomes_gather_c1 N σ) (fun r => FX σ0 r) := by
  unfold zf_Outcomes_gather_c1
  refine zp_bind (zp_mono (wx_f_Numbers_clear_c7  hs) fun r1 hr1 => ?_)
  refine zp_bind (zp_mono (wx_f_Numbers_clear_c8  hr1) fun r2 hr2 => ?_)
  refine zp_bind (zp_mono (wx_f_Arrays_fill_c8  hr2) fun r3 hr3 => ?_)
  exact wx_b_Outcomes_gather_c1_24  _ _ _ hr3
theorem wx_b_X_whole_102 {σ0 : zS} {N : Nat} {σ : zS} {v1 : Int32}  (hs : FX σ0 σ) : zp (zb_X_whole_102 N σ v1) (fun r => FX σ0 r.2) := by
  unfold zb_X_whole_102
  refine zp_chk fun _ => ?_
  exact zp_some hs
theorem wx_b_X_whole_101 {σ0 : zS} {N : Nat} {σ : zS} {v1 : Int32} {s0 : Int32} {s1 : Int32}  (hs : FX σ0 σ) : zp (zb_X_whole_101 N σ v1 s0 s1) (fun r => FX σ0 r.2) := by
  unfold zb_X_whole_101
  refine zp_chk fun _ => ?_
  exact wx_b_X_whole_102  (FX.up (by decide) hs)
theorem wx_f_X_whole {σ0 : zS} {N : Nat} {σ : zS} {x1 : Int32}  (hs : FX σ0 σ) : zp (zf_X_whole N σ x1) (fun r => FX σ0 r.2) := by
  unfold zf_X_whole
  refine zp_ite (fun _ => ?_) fun _ => ?_
  ·
    refine zp_ite (fun _ => ?_) fun _ => ?_
    ·
      exact zp_some hs
    ·
      refine zp_ite (fun _ => ?_) fun _ => ?_
      ·
        exact zp_some hs
      ·
        refine zp_ite (fun _ => ?_) fun _ => ?_
        ·
          refine zp_chk fun _ => ?_
          refine zp_ite (fun _ => ?_) fun _ => ?_
          ·
            exact wx_b_X_whole_102  hs
          ·
            refine zp_chk fun _ => ?_
            refine zp_bind (zp_mono (wx_f_Space_explore_c1  (FX.up (by decide) hs)) fun r9 hr9 => ?_)
            refine zp_ite (fun _ => ?_) fun _ => ?_
            ·
              exact wx_b_X_whole_102  hr9
            ·
              refine zp_bind (zp_mono (wx_f_Outcomes_gather_c1  hr9) fun r11 hr11 => ?_)
              refine zp_bind fun r12 _ => ?_
              refine zp_ite (fun _ => ?_) fun _ => ?_
              ·
                exact wx_b_X_whole_101  hr11
              ·
                exact wx_b_X_whole_101  hr11
        ·
          exact zp_some hs
  ·
    exact zp_some hs
theorem wx_f_Numbers_clear_c9 {σ0 : zS} {σ : zS}  (hs : FX σ0 σ) : zp (zf_Numbers_clear_c9 σ) (fun r => FX σ0 r) := by
  unfold zf_Numbers_clear_c9
  exact zp_some (FX.up (by decide) hs)
theorem wx_f_Numbers_add_c9 {σ0 : zS} {σ : zS} {x1 : Int32}  (hs : FX σ0 σ) : zp (zf_Numbers_add_c9 σ x1) (fun r => FX σ0 r) := by
  unfold zf_Numbers_add_c9
  refine zp_ite (fun _ => ?_) fun _ => ?_
  ·
    exact zp_some hs
  ·
    refine zp_ite (fun _ => ?_) fun _ => ?_
    ·
      exact zp_some hs
    ·
      refine zp_chk fun _ => ?_
      exact zp_some (FX.up (by decide) (FX.up (by decide) hs))
theorem wx_b_Judge_listDoubts_66 {σ0 : zS} {k27 : zS → Int32 → Int32 → Int32 → Option (zS)} {N : Nat} {σ : zS} {v1 : Int32} {v2 : Int32} {v3 : Int32} (hk27 : ∀ (y0 : zS) (y1 : Int32) (y2 : Int32) (y3 : Int32), FX σ0 y0 → zp (k27 y0 y1 y2 y3) (fun r => FX σ0 r)) (hs : FX σ0 σ) : zp (zb_Judge_listDoubts_66 k27 N σ v1 v2 v3) (fun r => FX σ0 r) := by
  unfold zb_Judge_listDoubts_66
  exact hk27 _ _ _ _ hs
theorem wx_b_Judge_listDoubts_27 {σ0 : zS} {k9 : zS → Int32 → Option (zS)} {N : Nat} (hk9 : ∀ (y0 : zS) (y1 : Int32), FX σ0 y0 → zp (k9 y0 y1) (fun r => FX σ0 r)) : ∀ (n : Nat) (σ : zS) (v1 : Int32) (v2 : Int32) (v3 : Int32), FX σ0 σ → zp (zb_Judge_listDoubts_27 k9 N n σ v1 v2 v3) (fun r => FX σ0 r) := by
  intro n
  induction n with
  | zero => intro _ _ _ _ _; exact zp_none
  | succ n ih =>
    intro σ v1 v2 v3 hs
    rw [zb_Judge_listDoubts_27]
    refine zp_ite (fun _ => ?_) fun _ => ?_
    ·
      exact hk9 _ _ hs
    ·
      refine zp_bind fun r4 _ => ?_
      refine zp_ite (fun _ => ?_) fun _ => ?_
      ·
        exact wx_b_Judge_listDoubts_66 (ih) hs
      ·
        refine zp_bind (zp_mono (wx_f_Numbers_add_c9  hs) fun r6 hr6 => ?_)
        exact wx_b_Judge_listDoubts_66 (ih) hr6
theorem wx_b_Judge_listDoubts_9 {σ0 : zS} {N : Nat}  : ∀ (n : Nat) (σ : zS) (v1 : Int32), FX σ0 σ → zp (zb_Judge_listDoubts_9 N n σ v1) (fun r => FX σ0 r) := by
  intro n
  induction n with
  | zero => intro _ _ _; exact zp_none
  | succ n ih =>
    intro σ v1 hs
    rw [zb_Judge_listDoubts_9]
    refine zp_ite (fun _ => ?_) fun _ => ?_
    ·
      exact zp_some hs
    ·
      exact wx_b_Judge_listDoubts_27 (ih) _ _ _ _ _ hs
theorem wx_f_Judge_listDoubts {σ0 : zS} {N : Nat} {σ : zS}  (hs : FX σ0 σ) : zp (zf_Judge_listDoubts N σ) (fun r => FX σ0 r) := by
  unfold zf_Judge_listDoubts
  refine zp_bind (zp_mono (wx_f_Numbers_clear_c9  hs) fun r1 hr1 => ?_)
  exact wx_b_Judge_listDoubts_9  _ _ _ hr1
theorem wx_b_Judge_countRingsWith_116 {σ0 : zS} {kr : zS → Int32 → Int32 → Option (Int32 × zS)} {k6 : zS → Int32 → Int32 → Int32 → Int32 → Int32 → Int32 → Option (Int32 × zS)} {N : Nat} {σ : zS} {v1 : Int32} {v2 : Int32} {v3 : Int32} {v4 : Int32} {v5 : Int32} {v6 : Int32} (hkr : ∀ (y0 : zS) (y1 : Int32) (y2 : Int32), FX σ0 y0 → zp (kr y0 y1 y2) (fun r => FX σ0 r.2)) (hk6 : ∀ (y0 : zS) (y1 : Int32) (y2 : Int32) (y3 : Int32) (y4 : Int32) (y5 : Int32) (y6 : Int32), FX σ0 y0 → zp (k6 y0 y1 y2 y3 y4 y5 y6) (fun r => FX σ0 r.2)) (hs : FX σ0 σ) : zp (zb_Judge_countRingsWith_116 kr k6 N σ v1 v2 v3 v4 v5 v6) (fun r => FX σ0 r.2) := by
  unfold zb_Judge_countRingsWith_116
  exact hk6 _ _ _ _ _ _ _ hs
theorem wx_b_Judge_countRingsWith_6 {σ0 : zS} {kr : zS → Int32 → Int32 → Option (Int32 × zS)} {N : Nat} (hkr : ∀ (y0 : zS) (y1 : Int32) (y2 : Int32), FX σ0 y0 → zp (kr y0 y1 y2) (fun r => FX σ0 r.2)) : ∀ (n : Nat) (σ : zS) (v1 : Int32) (v2 : Int32) (v3 : Int32) (v4 : Int32) (v5 : Int32) (v6 : Int32), FX σ0 σ → zp (zb_Judge_countRingsWith_6 kr N n σ v1 v2 v3 v4 v5 v6) (fun r => FX σ0 r.2) := by
  intro n
  induction n with
  | zero => intro _ _ _ _ _ _ _ _; exact zp_none
  | succ n ih =>
    intro σ v1 v2 v3 v4 v5 v6 hs
    rw [zb_Judge_countRingsWith_6]
    refine zp_bind fun r1 _ => ?_
    refine zp_ite (fun _ => ?_) fun _ => ?_
    ·
      exact zp_some hs
    ·
      refine zp_ite (fun _ => ?_) fun _ => ?_
      ·
        exact zp_some hs
      ·
        refine zp_bind fun r4 _ => ?_
        refine zp_chk fun _ => ?_
        refine zp_chk fun _ => ?_
        refine zp_ite (fun _ => ?_) fun _ => ?_
        ·
          exact wx_b_Judge_countRingsWith_116 (hkr) (ih) hs
        ·
          refine zp_ite (fun _ => ?_) fun _ => ?_
          ·
            exact wx_b_Judge_countRingsWith_116 (hkr) (ih) hs
          ·
            refine zp_ite (fun _ => ?_) fun _ => ?_
            ·
              exact wx_b_Judge_countRingsWith_116 (hkr) (ih) hs
            ·
              refine zp_bind fun r10 _ => ?_
              refine zp_ite (fun _ => ?_) fun _ => ?_
              ·
                exact wx_b_Judge_countRingsWith_116 (hkr) (ih) hs
              ·
                refine zp_chk fun _ => ?_
                refine zp_bind (zp_mono (hkr _ _ _ (FX.up (by decide) hs)) fun r13 hr13 => ?_)
                exact wx_b_Judge_countRingsWith_116 (hkr) (ih) hr13
theorem wx_f_Judge_countRingsWith {σ0 : zS} {kr : zS → Int32 → Int32 → Option (Int32 × zS)} {N : Nat} {σ : zS} {x1 : Int32} {x2 : Int32} {x3 : Int32} {x4 : Int32} (hkr : ∀ (y0 : zS) (y1 : Int32) (y2 : Int32), FX σ0 y0 → zp (kr y0 y1 y2) (fun r => FX σ0 r.2)) (hs : FX σ0 σ) : zp (zf_Judge_countRingsWith kr N σ x1 x2 x3 x4) (fun r => FX σ0 r.2) := by
  unfold zf_Judge_countRingsWith
  exact wx_b_Judge_countRingsWith_6 (hkr) _ _ _ _ _ _ _ _ hs
theorem wx_b_Judge_countRingsFrom_69 {σ0 : zS} {kr : zS → Int32 → Int32 → Option (Int32 × zS)} {N : Nat} (hkr : ∀ (y0 : zS) (y1 : Int32) (y2 : Int32), FX σ0 y0 → zp (kr y0 y1 y2) (fun r => FX σ0 r.2)) : ∀ (n : Nat) (σ : zS) (v1 : Int32) (v2 : Int32) (v4 : Int32) (v5 : Int32) (v6 : Int32), FX σ0 σ → zp (zb_Judge_countRingsFrom_69 kr N n σ v1 v2 v4 v5 v6) (fun r => FX σ0 r.2) := by
  intro n
  induction n with
  | zero => intro _ _ _ _ _ _ _; exact zp_none
  | succ n ih =>
    intro σ v1 v2 v4 v5 v6 hs
    rw [zb_Judge_countRingsFrom_69]
    refine zp_ite (fun _ => ?_) fun _ => ?_
    ·
      exact zp_some hs
    ·
      refine zp_bind (zp_mono (wx_f_Judge_countRingsWith (hkr) hs) fun r7 hr7 => ?_)
      exact ih _ _ _ _ _ _ hr7
theorem wx_b_Judge_countRingsFrom_59 {σ0 : zS} {kr : zS → Int32 → Int32 → Option (Int32 × zS)} {N : Nat} {σ : zS} {v1 : Int32} {v2 : Int32} {v3 : Int32} {v4 : Int32} {s0 : Int32} (hkr : ∀ (y0 : zS) (y1 : Int32) (y2 : Int32), FX σ0 y0 → zp (kr y0 y1 y2) (fun r => FX σ0 r.2)) (hs : FX σ0 σ) : zp (zb_Judge_countRingsFrom_59 kr N σ v1 v2 v3 v4 s0) (fun r => FX σ0 r.2) := by
  unfold zb_Judge_countRingsFrom_59
  exact wx_b_Judge_countRingsFrom_69 (hkr) _ _ _ _ _ _ _ hs
theorem wx_f_Judge_countRingsFromB {σ0 : zS} {kr : zS → Int32 → Int32 → Option (Int32 × zS)} {N : Nat} {σ : zS} {x1 : Int32} {x2 : Int32} (hkr : ∀ (y0 : zS) (y1 : Int32) (y2 : Int32), FX σ0 y0 → zp (kr y0 y1 y2) (fun r => FX σ0 r.2)) (hs : FX σ0 σ) : zp (zf_Judge_countRingsFromB kr N σ x1 x2) (fun r => FX σ0 r.2) := by
  unfold zf_Judge_countRingsFromB
  refine zp_ite (fun _ => ?_) fun _ => ?_
  ·
    exact zp_some hs
  ·
    refine zp_ite (fun _ => ?_) fun _ => ?_
    ·
      refine zp_chk fun _ => ?_
      refine zp_chk fun _ => ?_
      refine zp_ite (fun _ => ?_) fun _ => ?_
      ·
        exact wx_b_Judge_countRingsFrom_59 (hkr) hs
      ·
        refine zp_chk fun _ => ?_
        exact wx_b_Judge_countRingsFrom_59 (hkr) hs
    ·
      exact zp_some hs
theorem wx_f_Judge_countRingsFrom {σ0 : zS} {N : Nat}  : ∀ (n : Nat) (σ : zS) (x1 : Int32) (x2 : Int32), FX σ0 σ → zp (zf_Judge_countRingsFrom N n σ x1 x2) (fun r => FX σ0 r.2) := by
  intro n
  induction n with
  | zero => intro _ _ _ _; exact zp_none
  | succ n ih =>
    intro σ x1 x2 hs
    rw [zf_Judge_countRingsFrom]
    exact wx_f_Judge_countRingsFromB (ih) hs
theorem wx_b_Judge_countRings_63 {σ0 : zS} {k4 : zS → Int32 → Int32 → Option (Int32 × zS)} {N : Nat} {σ : zS} {v1 : Int32} {v2 : Int32} (hk4 : ∀ (y0 : zS) (y1 : Int32) (y2 : Int32), FX σ0 y0 → zp (k4 y0 y1 y2) (fun r => FX σ0 r.2)) (hs : FX σ0 σ) : zp (zb_Judge_countRings_63 k4 N σ v1 v2) (fun r => FX σ0 r.2) := by
  unfold zb_Judge_countRings_63
  exact hk4 _ _ _ hs
theorem wx_b_Judge_countRings_4 {σ0 : zS} {N : Nat}  : ∀ (n : Nat) (σ : zS) (v1 : Int32) (v2 : Int32), FX σ0 σ → zp (zb_Judge_countRings_4 N n σ v1 v2) (fun r => FX σ0 r.2) := by
  intro n
  induction n with
  | zero => intro _ _ _ _; exact zp_none
  | succ n ih =>
    intro σ v1 v2 hs
    rw [zb_Judge_countRings_4]
    refine zp_ite (fun _ => ?_) fun _ => ?_
    ·
      exact zp_some hs
    ·
      refine zp_bind fun r2 _ => ?_
      refine zp_chk fun _ => ?_
      refine zp_ite (fun _ => ?_) fun _ => ?_
      ·
        exact wx_b_Judge_countRings_63 (ih) hs
      ·
        refine zp_chk fun _ => ?_
        refine zp_bind (zp_mono (wx_f_Judge_countRingsFrom  _ _ _ _ (FX.up (by decide) hs)) fun r6 hr6 => ?_)
        exact wx_b_Judge_countRings_63 (ih) hr6
theorem wx_f_Judge_countRings {σ0 : zS} {N : Nat} {σ : zS}  (hs : FX σ0 σ) : zp (zf_Judge_countRings N σ) (fun r => FX σ0 r.2) := by
  unfold zf_Judge_countRings
  exact wx_b_Judge_countRings_4  _ _ _ _ hs
theorem wx_b_Judge_prepare_14 {σ0 : zS} {N : Nat}  : ∀ (n : Nat) (σ : zS) (v1 : Int32), FX σ0 σ → zp (zb_Judge_prepare_14 N n σ v1) (fun r => FX σ0 r) := by
  intro n
  induction n with
  | zero => intro _ _ _; exact zp_none
  | succ n ih =>
    intro σ v1 hs
    rw [zb_Judge_prepare_14]
    refine zp_ite (fun _ => ?_) fun _ => ?_
    ·
      refine zp_bind (zp_mono (wx_f_Judge_listDoubts  hs) fun r3 hr3 => ?_)
      refine zp_bind (zp_mono (wx_f_Judge_countRings  hr3) fun r4 hr4 => ?_)
      exact zp_some (FX.up (by decide) hr4)
    ·
      refine zp_bind fun r5 _ => ?_
      refine zp_chk fun _ => ?_
      exact ih _ _ (FX.up (by decide) hs)
theorem wx_f_Judge_prepare {σ0 : zS} {N : Nat} {σ : zS}  (hs : FX σ0 σ) : zp (zf_Judge_prepare N σ) (fun r => FX σ0 r) := by
  unfold zf_Judge_prepare
  refine zp_ite (fun _ => ?_) fun _ => ?_
  ·
    exact zp_some hs
  ·
    exact wx_b_Judge_prepare_14  _ _ _ (FX.up (by decide) hs)
theorem wx_f_X_doubts {σ0 : zS} {N : Nat} {σ : zS}  (hs : FX σ0 σ) : zp (zf_X_doubts N σ) (fun r => FX σ0 r.2) := by
  unfold zf_X_doubts
  refine zp_ite (fun _ => ?_) fun _ => ?_
  ·
    refine zp_bind (zp_mono (wx_f_Judge_prepare  hs) fun r2 hr2 => ?_)
    exact zp_some hr2
  ·
    exact zp_some hs
theorem wx_f_X_doubt {σ0 : zS} {N : Nat} {σ : zS} {x1 : Int32} {x2 : Int32}  (hs : FX σ0 σ) : zp (zf_X_doubt N σ x1 x2) (fun r => FX σ0 r.2) := by
  unfold zf_X_doubt
  refine zp_ite (fun _ => ?_) fun _ => ?_
  ·
    refine zp_bind (zp_mono (wx_f_Judge_prepare  hs) fun r2 hr2 => ?_)
    refine zp_bind fun r3 _ => ?_
    refine zp_bind fun r4 _ => ?_
    exact zp_some hr2
  ·
    exact zp_some hs
theorem wx_f_X_meet {σ0 : zS} {N : Nat} {σ : zS} {x1 : Int32} {x2 : Int32} {x3 : Int32} {x4 : Int32}  (hs : FX σ0 σ) : zp (zf_X_meet N σ x1 x2 x3 x4) (fun r => FX σ0 r.2) := by
  unfold zf_X_meet
  refine zp_ite (fun _ => ?_) fun _ => ?_
  ·
    refine zp_ite (fun _ => ?_) fun _ => ?_
    ·
      exact zp_some hs
    ·
      refine zp_bind fun r3 _ => ?_
      refine zp_ite (fun _ => ?_) fun _ => ?_
      ·
        exact zp_some hs
      ·
        refine zp_bind fun r5 _ => ?_
        refine zp_ite (fun _ => ?_) fun _ => ?_
        ·
          refine zp_bind (zp_mono (wx_f_Judge_prepare  hs) fun r7 hr7 => ?_)
          refine zp_bind fun r8 _ => ?_
          refine zp_ite (fun _ => ?_) fun _ => ?_
          ·
            exact zp_some hr7
          ·
            exact zp_some hr7
        ·
          exact zp_some hs
  ·
    exact zp_some hs
theorem wx_f_X_rings {σ0 : zS} {N : Nat} {σ : zS}  (hs : FX σ0 σ) : zp (zf_X_rings N σ) (fun r => FX σ0 r.2) := by
  unfold zf_X_rings
  refine zp_ite (fun _ => ?_) fun _ => ?_
  ·
    refine zp_bind (zp_mono (wx_f_Judge_prepare  hs) fun r2 hr2 => ?_)
    exact zp_some hr2
  ·
    exact zp_some hs
def FRd (σ0 σ : zS) : Prop := σ 3 = σ0 3 ∧ σ 0 = σ0 0
def GRd (τ0 τ : zT) : Prop := τ 1 = τ0 1
theorem FRd.up {σ0 σ : zS} {p i : Nat} {x : Int32} (hp : 3 ≠ p ∧ 0 ≠ p) (h : FRd σ0 σ) : FRd σ0 (zx_up σ p i x) := ⟨by rw [zu_other hp.1]; exact h.1, by rw [zu_other hp.2]; exact h.2⟩
theorem GRd.up {τ0 τ : zT} {p i : Nat} {x : Int64} (hp : 1 ≠ p) (h : GRd τ0 τ) : GRd τ0 (zx_up τ p i x) := by
  unfold GRd at *
  rw [zt_other hp]; exact h
theorem wr_b_Arrays_fill_5 {σ0 : zS} {N : Nat}  : ∀ (n : Nat) (σ : zS) (v1 : Int32) (v2 : Int32) (v3 : Int32), FRd σ0 σ → zp (zb_Arrays_fill_5 N n σ v1 v2 v3) (fun r => FRd σ0 r) := by
  intro n
  induction n with
  | zero => intro _ _ _ _ _; exact zp_none
  | succ n ih =>
    intro σ v1 v2 v3 hs
    rw [zb_Arrays_fill_5]
    refine zp_ite (fun _ => ?_) fun _ => ?_
    ·
      exact zp_some hs
    ·
      refine zp_chk fun _ => ?_
      exact ih _ _ _ _ (FRd.up (by decide) hs)
theorem wr_f_Arrays_fill {σ0 : zS} {N : Nat} {σ : zS} {x2 : Int32}  (hs : FRd σ0 σ) : zp (zf_Arrays_fill N σ x2) (fun r => FRd σ0 r) := by
  unfold zf_Arrays_fill
  exact wr_b_Arrays_fill_5  _ _ _ _ _ hs
theorem wr_b_Arrays_fill_c1_5 {σ0 : zS} {N : Nat}  : ∀ (n : Nat) (σ : zS) (v1 : Int32) (v2 : Int32) (v3 : Int32), FRd σ0 σ → zp (zb_Arrays_fill_c1_5 N n σ v1 v2 v3) (fun r => FRd σ0 r) := by
  intro n
  induction n with
  | zero => intro _ _ _ _ _; exact zp_none
  | succ n ih =>
    intro σ v1 v2 v3 hs
    rw [zb_Arrays_fill_c1_5]
    refine zp_ite (fun _ => ?_) fun _ => ?_
    ·
      exact zp_some hs
    ·
      refine zp_chk fun _ => ?_
      exact ih _ _ _ _ (FRd.up (by decide) hs)
theorem wr_f_Arrays_fill_c1 {σ0 : zS} {N : Nat} {σ : zS} {x2 : Int32}  (hs : FRd σ0 σ) : zp (zf_Arrays_fill_c1 N σ x2) (fun r => FRd σ0 r) := by
  unfold zf_Arrays_fill_c1
  exact wr_b_Arrays_fill_c1_5  _ _ _ _ _ hs
theorem wr_f_Program_clear {σ0 : zS} {N : Nat} {σ : zS}  (hs : FRd σ0 σ) : zp (zf_Program_clear N σ) (fun r => FRd σ0 r) := by
  unfold zf_Program_clear
  refine zp_bind (zp_mono (wr_f_Arrays_fill  (FRd.up (by decide) (FRd.up (by decide) (FRd.up (by decide) (FRd.up (by decide) (FRd.up (by decide) (FRd.up (by decide) (FRd.up (by decide) hs)))))))) fun r1 hr1 => ?_)
  refine zp_bind (zp_mono (wr_f_Arrays_fill_c1  hr1) fun r2 hr2 => ?_)
  exact zp_some hr2
theorem wr_f_Names_clear {σ0 : zS} {σ : zS}  (hs : FRd σ0 σ) : zp (zf_Names_clear σ) (fun r => FRd σ0 r) := by
  unfold zf_Names_clear
  exact zp_some (FRd.up (by decide) (FRd.up (by decide) hs))
theorem wr_f_Weaver_beginThread {σ0 : zS} {σ : zS} {x1 : Int32}  (hs : FRd σ0 σ) : zp (zf_Weaver_beginThread σ x1) (fun r => FRd σ0 r) := by
  unfold zf_Weaver_beginThread
  exact zp_some (FRd.up (by decide) (FRd.up (by decide) (FRd.up (by decide) (FRd.up (by decide) (FRd.up (by decide) (FRd.up (by decide) (FRd.up (by decide) hs)))))))
theorem wr_b_Tokens_advance_33 {σ0 : zS} {τ0 : zT} {σ : zS} {τ : zT}  (hs : FRd σ0 σ) (ht : GRd τ0 τ) : zp (zb_Tokens_advance_33 σ τ) (fun r => FRd σ0 r.1 ∧ GRd τ0 r.2) := by
  unfold zb_Tokens_advance_33
  refine zp_ite (fun _ => ?_) fun _ => ?_
  ·
    exact zp_some ⟨hs, ht⟩
  ·
    refine zp_ite (fun _ => ?_) fun _ => ?_
    ·
      exact zp_some ⟨hs, ht⟩
    ·
      refine zp_chk fun _ => ?_
      refine zp_chk fun _ => ?_
      refine zp_chk fun _ => ?_
      exact zp_some ⟨(FRd.up (by decide) (FRd.up (by decide) hs)), (GRd.up (by decide) ht)⟩
theorem wr_f_Tokens_advance {σ0 : zS} {τ0 : zT} {σ : zS} {τ : zT}  (hs : FRd σ0 σ) (ht : GRd τ0 τ) : zp (zf_Tokens_advance σ τ) (fun r => FRd σ0 r.1 ∧ GRd τ0 r.2) := by
  unfold zf_Tokens_advance
  refine zp_ite (fun _ => ?_) fun _ => ?_
  ·
    exact wr_b_Tokens_advance_33  hs ht
  ·
    refine zp_ite (fun _ => ?_) fun _ => ?_
    ·
      exact wr_b_Tokens_advance_33  hs ht
    ·
      exact wr_b_Tokens_advance_33  (FRd.up (by decide) hs) ht
theorem wr_b_Tokens_takeSign_66 {σ0 : zS} {σ : zS} {s0 : Int32}  (hs : FRd σ0 σ) : zp (zb_Tokens_takeSign_66 σ s0) (fun r => FRd σ0 r.2) := by
  unfold zb_Tokens_takeSign_66
  exact zp_some (FRd.up (by decide) hs)
theorem wr_b_Tokens_takeSign_53 {σ0 : zS} {σ : zS} {v1 : Int32}  (hs : FRd σ0 σ) : zp (zb_Tokens_takeSign_53 σ v1) (fun r => FRd σ0 r.2) := by
  unfold zb_Tokens_takeSign_53
  refine zp_bind fun r4 _ => ?_
  refine zp_ite (fun _ => ?_) fun _ => ?_
  ·
    exact wr_b_Tokens_takeSign_66  hs
  ·
    exact wr_b_Tokens_takeSign_66  hs
theorem wr_b_Tokens_takeSign_43 {σ0 : zS} {σ : zS} {s0 : Int32}  (hs : FRd σ0 σ) : zp (zb_Tokens_takeSign_43 σ s0) (fun r => FRd σ0 r.2) := by
  unfold zb_Tokens_takeSign_43
  exact zp_some (FRd.up (by decide) hs)
theorem wr_b_Tokens_takeSign_12 {σ0 : zS} {σ : zS} {v1 : Int32}  (hs : FRd σ0 σ) : zp (zb_Tokens_takeSign_12 σ v1) (fun r => FRd σ0 r.2) := by
  unfold zb_Tokens_takeSign_12
  refine zp_bind fun r2 _ => ?_
  refine zp_ite (fun _ => ?_) fun _ => ?_
  ·
    exact wr_b_Tokens_takeSign_53  hs
  ·
    refine zp_ite (fun _ => ?_) fun _ => ?_
    ·
      exact wr_b_Tokens_takeSign_43  hs
    ·
      exact wr_b_Tokens_takeSign_43  hs
theorem wr_f_Tokens_takeSign {σ0 : zS} {σ : zS} {x1 : Int32}  (hs : FRd σ0 σ) : zp (zf_Tokens_takeSign σ x1) (fun r => FRd σ0 r.2) := by
  unfold zf_Tokens_takeSign
  refine zp_ite (fun _ => ?_) fun _ => ?_
  ·
    exact wr_b_Tokens_takeSign_12  hs
  ·
    refine zp_ite (fun _ => ?_) fun _ => ?_
    ·
      exact wr_b_Tokens_takeSign_53  hs
    ·
      exact wr_b_Tokens_takeSign_12  hs
theorem wr_b_Tokens_takeWord_108 {σ0 : zS} {τ0 : zT} {k70 : zS → zT → Int32 → Int32 → Option (Int32 × zS × zT)} {N : Nat} {σ : zS} {τ : zT} {v1 : Int32} {v2 : Int32} (hk70 : ∀ (y0 : zS) (y1 : zT) (y2 : Int32) (y3 : Int32), FRd σ0 y0 → GRd τ0 y1 → zp (k70 y0 y1 y2 y3) (fun r => FRd σ0 r.2.1 ∧ GRd τ0 r.2.2)) (hs : FRd σ0 σ) (ht : GRd τ0 τ) : zp (zb_Tokens_takeWord_108 k70 N σ τ v1 v2) (fun r => FRd σ0 r.2.1 ∧ GRd τ0 r.2.2) := by
  unfold zb_Tokens_takeWord_108
  exact hk70 _ _ _ _ hs ht
theorem wr_b_Tokens_takeWord_70 {σ0 : zS} {τ0 : zT} {N : Nat}  : ∀ (n : Nat) (σ : zS) (τ : zT) (v1 : Int32) (v2 : Int32), FRd σ0 σ → GRd τ0 τ → zp (zb_Tokens_takeWord_70 N n σ τ v1 v2) (fun r => FRd σ0 r.2.1 ∧ GRd τ0 r.2.2) := by
  intro n
  induction n with
  | zero => intro _ _ _ _ _ _; exact zp_none
  | succ n ih =>
    intro σ τ v1 v2 hs ht
    rw [zb_Tokens_takeWord_70]
    refine zp_ite (fun _ => ?_) fun _ => ?_
    ·
      exact zp_some ⟨hs, ht⟩
    ·
      refine zp_ite (fun _ => ?_) fun _ => ?_
      ·
        exact zp_some ⟨hs, ht⟩
      ·
        refine zp_chk fun _ => ?_
        refine zp_ite (fun _ => ?_) fun _ => ?_
        ·
          exact wr_b_Tokens_takeWord_108 (ih) hs ht
        ·
          exact wr_b_Tokens_takeWord_108 (ih) (FRd.up (by decide) hs) ht
theorem wr_b_Tokens_takeWord_65 {σ0 : zS} {τ0 : zT} {N : Nat} {σ : zS} {τ : zT} {v1 : Int32} {s0 : Int32}  (hs : FRd σ0 σ) (ht : GRd τ0 τ) : zp (zb_Tokens_takeWord_65 N σ τ v1 s0) (fun r => FRd σ0 r.2.1 ∧ GRd τ0 r.2.2) := by
  unfold zb_Tokens_takeWord_65
  exact wr_b_Tokens_takeWord_70  _ _ _ _ _ (FRd.up (by decide) hs) ht
theorem wr_b_Tokens_takeWord_48 {σ0 : zS} {τ0 : zT} {N : Nat} {σ : zS} {τ : zT} {v1 : Int32}  (hs : FRd σ0 σ) (ht : GRd τ0 τ) : zp (zb_Tokens_takeWord_48 N σ τ v1) (fun r => FRd σ0 r.2.1 ∧ GRd τ0 r.2.2) := by
  unfold zb_Tokens_takeWord_48
  refine zp_ite (fun _ => ?_) fun _ => ?_
  ·
    exact wr_b_Tokens_takeWord_65  hs ht
  ·
    exact wr_b_Tokens_takeWord_65  hs ht
theorem wr_b_Tokens_takeWord_5 {σ0 : zS} {τ0 : zT} {N : Nat}  : ∀ (n : Nat) (σ : zS) (τ : zT) (v1 : Int32), FRd σ0 σ → GRd τ0 τ → zp (zb_Tokens_takeWord_5 N n σ τ v1) (fun r => FRd σ0 r.2.1 ∧ GRd τ0 r.2.2) := by
  intro n
  induction n with
  | zero => intro _ _ _ _ _; exact zp_none
  | succ n ih =>
    intro σ τ v1 hs ht
    rw [zb_Tokens_takeWord_5]
    refine zp_ite (fun _ => ?_) fun _ => ?_
    ·
      exact wr_b_Tokens_takeWord_48  hs ht
    ·
      refine zp_bind fun r7 _ => ?_
      refine zp_bind fun r8 _ => ?_
      refine zp_ite (fun _ => ?_) fun _ => ?_
      ·
        exact wr_b_Tokens_takeWord_48  hs ht
      ·
        refine zp_bind fun r10 _ => ?_
        exact ih _ _ _ hs (GRd.up (by decide) ht)
theorem wr_f_Tokens_takeWord {σ0 : zS} {τ0 : zT} {N : Nat} {σ : zS} {τ : zT}  (hs : FRd σ0 σ) (ht : GRd τ0 τ) : zp (zf_Tokens_takeWord N σ τ) (fun r => FRd σ0 r.2.1 ∧ GRd τ0 r.2.2) := by
  unfold zf_Tokens_takeWord
  exact wr_b_Tokens_takeWord_5  _ _ _ _ hs ht
theorem wr_b_Tokens_takeNumber_37 {σ0 : zS} {τ0 : zT} {σ : zS} {τ : zT} {s0 : Int32}  (hs : FRd σ0 σ) (ht : GRd τ0 τ) : zp (zb_Tokens_takeNumber_37 σ τ s0) (fun r => FRd σ0 r.2.1 ∧ GRd τ0 r.2.2) := by
  unfold zb_Tokens_takeNumber_37
  exact zp_some ⟨(FRd.up (by decide) hs), ht⟩
theorem wr_b_Tokens_takeNumber_32 {σ0 : zS} {τ0 : zT} {σ : zS} {τ : zT}  (hs : FRd σ0 σ) (ht : GRd τ0 τ) : zp (zb_Tokens_takeNumber_32 σ τ) (fun r => FRd σ0 r.2.1 ∧ GRd τ0 r.2.2) := by
  unfold zb_Tokens_takeNumber_32
  exact wr_b_Tokens_takeNumber_37  hs ht
theorem wr_f_Tokens_takeNumber {σ0 : zS} {τ0 : zT} {σ : zS} {τ : zT} {x1 : Int32}  (hs : FRd σ0 σ) (ht : GRd τ0 τ) : zp (zf_Tokens_takeNumber σ τ x1) (fun r => FRd σ0 r.2.1 ∧ GRd τ0 r.2.2) := by
  unfold zf_Tokens_takeNumber
  refine zp_ite (fun _ => ?_) fun _ => ?_
  ·
    exact wr_b_Tokens_takeNumber_32  hs (GRd.up (by decide) ht)
  ·
    refine zp_bind fun r2 _ => ?_
    refine zp_bind fun r3 _ => ?_
    refine zp_ite (fun _ => ?_) fun _ => ?_
    ·
      exact wr_b_Tokens_takeNumber_37  hs (GRd.up (by decide) ht)
    ·
      exact wr_b_Tokens_takeNumber_32  hs (GRd.up (by decide) ht)
theorem wr_b_Tokens_takeToken_43 {σ0 : zS} {τ0 : zT} {N : Nat} {σ : zS} {τ : zT}  (hs : FRd σ0 σ) (ht : GRd τ0 τ) : zp (zb_Tokens_takeToken_43 N σ τ) (fun r => FRd σ0 r.2.1 ∧ GRd τ0 r.2.2) := by
  unfold zb_Tokens_takeToken_43
  refine zp_bind fun r2 _ => ?_
  refine zp_ite (fun _ => ?_) fun _ => ?_
  ·
    refine zp_bind fun r4 _ => ?_
    refine zp_ite (fun _ => ?_) fun _ => ?_
    ·
      refine zp_bind (zp_mono (wr_f_Tokens_takeSign  hs) fun r6 hr6 => ?_)
      exact zp_some ⟨hr6, (GRd.up (by decide) ht)⟩
    ·
      refine zp_ite (fun _ => ?_) fun _ => ?_
      ·
        refine zp_bind (zp_mono (wr_f_Tokens_takeWord  hs (GRd.up (by decide) ht)) fun r8 hr8 => ?_)
        exact zp_some ⟨hr8.1, hr8.2⟩
      ·
        refine zp_bind (zp_mono (wr_f_Tokens_takeNumber  hs (GRd.up (by decide) ht)) fun r9 hr9 => ?_)
        exact zp_some ⟨hr9.1, hr9.2⟩
  ·
    exact zp_some ⟨(FRd.up (by decide) hs), (GRd.up (by decide) ht)⟩
theorem wr_b_Tokens_takeToken_5 {σ0 : zS} {τ0 : zT} {N : Nat}  : ∀ (n : Nat) (σ : zS) (τ : zT), FRd σ0 σ → GRd τ0 τ → zp (zb_Tokens_takeToken_5 N n σ τ) (fun r => FRd σ0 r.2.1 ∧ GRd τ0 r.2.2) := by
  intro n
  induction n with
  | zero => intro _ _ _ _; exact zp_none
  | succ n ih =>
    intro σ τ hs ht
    rw [zb_Tokens_takeToken_5]
    refine zp_ite (fun _ => ?_) fun _ => ?_
    ·
      exact wr_b_Tokens_takeToken_43  hs ht
    ·
      refine zp_bind fun r10 _ => ?_
      refine zp_bind fun r11 _ => ?_
      refine zp_ite (fun _ => ?_) fun _ => ?_
      ·
        exact wr_b_Tokens_takeToken_43  hs ht
      ·
        exact ih _ _ (FRd.up (by decide) hs) ht
theorem wr_f_Tokens_takeToken {σ0 : zS} {τ0 : zT} {N : Nat} {σ : zS} {τ : zT} {x1 : Int32}  (hs : FRd σ0 σ) (ht : GRd τ0 τ) : zp (zf_Tokens_takeToken N σ τ x1) (fun r => FRd σ0 r.2.1 ∧ GRd τ0 r.2.2) := by
  unfold zf_Tokens_takeToken
  exact wr_b_Tokens_takeToken_5  _ _ _ (FRd.up (by decide) hs) ht
theorem wr_b_Tokens_scan_93 {σ0 : zS} {τ0 : zT} {N : Nat} {σ : zS} {τ : zT}  (hs : FRd σ0 σ) (ht : GRd τ0 τ) : zp (zb_Tokens_scan_93 N σ τ) (fun r => FRd σ0 r.1 ∧ GRd τ0 r.2) := by
  unfold zb_Tokens_scan_93
  refine zp_bind (zp_mono (wr_f_Tokens_advance  (FRd.up (by decide) hs) ht) fun r2 hr2 => ?_)
  exact zp_some ⟨hr2.1, hr2.2⟩
theorem wr_b_Tokens_scan_19 {σ0 : zS} {τ0 : zT} {N : Nat}  : ∀ (n : Nat) (σ : zS) (τ : zT) (v2 : Int32) (v3 : Int32), FRd σ0 σ → GRd τ0 τ → zp (zb_Tokens_scan_19 N n σ τ v2 v3) (fun r => FRd σ0 r.1 ∧ GRd τ0 r.2) := by
  intro n
  induction n with
  | zero => intro _ _ _ _ _ _; exact zp_none
  | succ n ih =>
    intro σ τ v2 v3 hs ht
    rw [zb_Tokens_scan_19]
    refine zp_ite (fun _ => ?_) fun _ => ?_
    ·
      exact wr_b_Tokens_scan_93  hs ht
    ·
      refine zp_ite (fun _ => ?_) fun _ => ?_
      ·
        exact wr_b_Tokens_scan_93  hs ht
      ·
        refine zp_ite (fun _ => ?_) fun _ => ?_
        ·
          exact wr_b_Tokens_scan_93  hs ht
        ·
          refine zp_bind (zp_mono (wr_f_Tokens_takeToken  hs ht) fun r5 hr5 => ?_)
          refine zp_chk fun _ => ?_
          refine zp_chk fun _ => ?_
          refine zp_chk fun _ => ?_
          exact ih _ _ _ _ (FRd.up (by decide) (FRd.up (by decide) (FRd.up (by decide) hr5.1))) (GRd.up (by decide) hr5.2)
theorem wr_f_Tokens_scan {σ0 : zS} {τ0 : zT} {N : Nat} {σ : zS} {τ : zT} {x1 : Int32}  (hs : FRd σ0 σ) (ht : GRd τ0 τ) : zp (zf_Tokens_scan N σ τ x1) (fun r => FRd σ0 r.1 ∧ GRd τ0 r.2) := by
  unfold zf_Tokens_scan
  exact wr_b_Tokens_scan_19  _ _ _ _ _ (FRd.up (by decide) (FRd.up (by decide) (FRd.up (by decide) hs))) ht
theorem wr_f_Program_setThread {σ0 : zS} {σ : zS} {x1 : Int32} {x2 : Int32}  (hs : FRd σ0 σ) : zp (zf_Program_setThread σ x1 x2) (fun r => FRd σ0 r) := by
  unfold zf_Program_setThread
  refine zp_ite (fun _ => ?_) fun _ => ?_
  ·
    exact zp_some hs
  ·
    refine zp_ite (fun _ => ?_) fun _ => ?_
    ·
      exact zp_some hs
    ·
      refine zp_ite (fun _ => ?_) fun _ => ?_
      ·
        exact zp_some hs
      ·
        refine zp_ite (fun _ => ?_) fun _ => ?_
        ·
          exact zp_some hs
        ·
          refine zp_chk fun _ => ?_
          refine zp_chk fun _ => ?_
          refine zp_ite (fun _ => ?_) fun _ => ?_
          ·
            exact zp_some (FRd.up (by decide) hs)
          ·
            refine zp_chk fun _ => ?_
            refine zp_chk fun _ => ?_
            exact zp_some (FRd.up (by decide) (FRd.up (by decide) hs))
theorem wr_b_Reader_findThread_45 {σ0 : zS} {N : Nat} {σ : zS} {τ : zT} {v2 : Int32}  (hs : FRd σ0 σ) : zp (zb_Reader_findThread_45 N σ τ v2) (fun r => FRd σ0 r) := by
  unfold zb_Reader_findThread_45
  refine zp_chk fun _ => ?_
  refine zp_bind fun r6 _ => ?_
  refine zp_ite (fun _ => ?_) fun _ => ?_
  ·
    refine zp_bind (zp_mono (wr_f_Program_setThread  hs) fun r8 hr8 => ?_)
    exact zp_some hr8
  ·
    refine zp_chk fun _ => ?_
    exact zp_some (FRd.up (by decide) (FRd.up (by decide) hs))
theorem wr_f_Reader_findThread {σ0 : zS} {N : Nat} {σ : zS} {τ : zT} {x1 : Int32}  (hs : FRd σ0 σ) : zp (zf_Reader_findThread N σ τ x1) (fun r => FRd σ0 r) := by
  unfold zf_Reader_findThread
  refine zp_bind fun r1 _ => ?_
  refine zp_chk fun _ => ?_
  refine zp_ite (fun _ => ?_) fun _ => ?_
  ·
    exact zp_some hs
  ·
    refine zp_ite (fun _ => ?_) fun _ => ?_
    ·
      exact wr_b_Reader_findThread_45  hs
    ·
      refine zp_ite (fun _ => ?_) fun _ => ?_
      ·
        exact wr_b_Reader_findThread_45  hs
      ·
        exact zp_some hs
theorem wr_b_Reader_failHere_17 {σ0 : zS} {σ : zS} {s0 : Int32}  (hs : FRd σ0 σ) : zp (zb_Reader_failHere_17 σ s0) (fun r => FRd σ0 r.2) := by
  unfold zb_Reader_failHere_17
  exact zp_some (FRd.up (by decide) (FRd.up (by decide) hs))
theorem wr_f_Reader_failHere {σ0 : zS} {σ : zS} {x1 : Int32}  (hs : FRd σ0 σ) : zp (zf_Reader_failHere σ x1) (fun r => FRd σ0 r.2) := by
  unfold zf_Reader_failHere
  refine zp_ite (fun _ => ?_) fun _ => ?_
  ·
    exact wr_b_Reader_failHere_17  hs
  ·
    exact wr_b_Reader_failHere_17  hs
theorem wr_f_Names_tell {σ0 : zS} {τ0 : zT} {σ : zS} {τ : zT} {x1 : Int64} {x2 : Int32} {x3 : Int32}  (hs : FRd σ0 σ) (ht : GRd τ0 τ) : zp (zf_Names_tell σ τ x1 x2 x3) (fun r => FRd σ0 r.1 ∧ GRd τ0 r.2) := by
  unfold zf_Names_tell
  refine zp_ite (fun _ => ?_) fun _ => ?_
  ·
    exact zp_some ⟨hs, ht⟩
  ·
    refine zp_ite (fun _ => ?_) fun _ => ?_
    ·
      exact zp_some ⟨hs, ht⟩
    ·
      refine zp_chk fun _ => ?_
      refine zp_chk fun _ => ?_
      refine zp_chk fun _ => ?_
      exact zp_some ⟨(FRd.up (by decide) (FRd.up (by decide) (FRd.up (by decide) hs))), (GRd.up (by decide) ht)⟩
theorem wr_f_Reader_tellName {σ0 : zS} {τ0 : zT} {N : Nat} {σ : zS} {τ : zT} {x1 : Int32} {x2 : Int32} {x3 : Int32}  (hs : FRd σ0 σ) (ht : GRd τ0 τ) : zp (zf_Reader_tellName N σ τ x1 x2 x3) (fun r => FRd σ0 r.2.1 ∧ GRd τ0 r.2.2) := by
  unfold zf_Reader_tellName
  refine zp_ite (fun _ => ?_) fun _ => ?_
  ·
    refine zp_bind fun r2 _ => ?_
    refine zp_ite (fun _ => ?_) fun _ => ?_
    ·
      refine zp_ite (fun _ => ?_) fun _ => ?_
      ·
        refine zp_bind (zp_mono (wr_f_Names_tell  hs ht) fun r5 hr5 => ?_)
        refine zp_bind (zp_mono (wr_f_Tokens_advance  hr5.1 hr5.2) fun r6 hr6 => ?_)
        exact zp_some ⟨hr6.1, hr6.2⟩
      ·
        refine zp_bind (zp_mono (wr_f_Reader_failHere  hs) fun r7 hr7 => ?_)
        refine zp_chk fun _ => ?_
        exact zp_some ⟨hr7, ht⟩
    ·
      refine zp_bind (zp_mono (wr_f_Reader_failHere  hs) fun r9 hr9 => ?_)
      refine zp_chk fun _ => ?_
      exact zp_some ⟨hr9, ht⟩
  ·
    refine zp_bind (zp_mono (wr_f_Reader_failHere  hs) fun r11 hr11 => ?_)
    refine zp_chk fun _ => ?_
    exact zp_some ⟨hr11, ht⟩
theorem wr_f_Names_forgetLocals {σ0 : zS} {σ : zS}  (hs : FRd σ0 σ) : zp (zf_Names_forgetLocals σ) (fun r => FRd σ0 r) := by
  unfold zf_Names_forgetLocals
  exact zp_some (FRd.up (by decide) hs)
theorem wr_f_Reader_expect {σ0 : zS} {τ0 : zT} {σ : zS} {τ : zT} {x1 : Int32}  (hs : FRd σ0 σ) (ht : GRd τ0 τ) : zp (zf_Reader_expect σ τ x1) (fun r => FRd σ0 r.2.1 ∧ GRd τ0 r.2.2) := by
  unfold zf_Reader_expect
  refine zp_ite (fun _ => ?_) fun _ => ?_
  ·
    refine zp_bind (zp_mono (wr_f_Tokens_advance  hs ht) fun r2 hr2 => ?_)
    exact zp_some ⟨hr2.1, hr2.2⟩
  ·
    refine zp_bind (zp_mono (wr_f_Reader_failHere  hs) fun r3 hr3 => ?_)
    refine zp_chk fun _ => ?_
    exact zp_some ⟨hr3, ht⟩
theorem wr_f_Weaver_enter {σ0 : zS} {σ : zS} {x1 : Int32} {x2 : Int32}  (hs : FRd σ0 σ) : zp (zf_Weaver_enter σ x1 x2) (fun r => FRd σ0 r) := by
  unfold zf_Weaver_enter
  refine zp_ite (fun _ => ?_) fun _ => ?_
  ·
    exact zp_some hs
  ·
    refine zp_ite (fun _ => ?_) fun _ => ?_
    ·
      refine zp_chk fun _ => ?_
      refine zp_chk fun _ => ?_
      refine zp_chk fun _ => ?_
      refine zp_chk fun _ => ?_
      refine zp_chk fun _ => ?_
      refine zp_ite (fun _ => ?_) fun _ => ?_
      ·
        refine zp_ite (fun _ => ?_) fun _ => ?_
        ·
          exact zp_some (FRd.up (by decide) (FRd.up (by decide) (FRd.up (by decide) (FRd.up (by decide) (FRd.up (by decide) (FRd.up (by decide) hs))))))
        ·
          exact zp_some (FRd.up (by decide) (FRd.up (by decide) (FRd.up (by decide) (FRd.up (by decide) (FRd.up (by decide) (FRd.up (by decide) (FRd.up (by decide) (FRd.up (by decide) hs))))))))
      ·
        exact zp_some (FRd.up (by decide) (FRd.up (by decide) (FRd.up (by decide) (FRd.up (by decide) (FRd.up (by decide) (FRd.up (by decide) (FRd.up (by decide) hs)))))))
    ·
      exact zp_some hs
theorem wr_b_Reader_openBlock_33 {σ0 : zS} {τ0 : zT} {σ : zS} {τ : zT} {v1 : Int32} {v2 : Int32}  (hs : FRd σ0 σ) (ht : GRd τ0 τ) : zp (zb_Reader_openBlock_33 σ τ v1 v2) (fun r => FRd σ0 r.1 ∧ GRd τ0 r.2) := by
  unfold zb_Reader_openBlock_33
  refine zp_bind (zp_mono (wr_f_Reader_expect  hs ht) fun r2 hr2 => ?_)
  refine zp_ite (fun _ => ?_) fun _ => ?_
  ·
    exact zp_some ⟨hr2.1, hr2.2⟩
  ·
    refine zp_bind (zp_mono (wr_f_Weaver_enter  hr2.1) fun r4 hr4 => ?_)
    exact zp_some ⟨hr4, hr2.2⟩
theorem wr_f_Reader_openBlock {σ0 : zS} {τ0 : zT} {σ : zS} {τ : zT} {x1 : Int32} {x2 : Int32}  (hs : FRd σ0 σ) (ht : GRd τ0 τ) : zp (zf_Reader_openBlock σ τ x1 x2) (fun r => FRd σ0 r.1 ∧ GRd τ0 r.2) := by
  unfold zf_Reader_openBlock
  refine zp_ite (fun _ => ?_) fun _ => ?_
  ·
    exact wr_b_Reader_openBlock_33  hs ht
  ·
    refine zp_ite (fun _ => ?_) fun _ => ?_
    ·
      exact wr_b_Reader_openBlock_33  hs ht
    ·
      refine zp_bind (zp_mono (wr_f_Reader_failHere  hs) fun r6 hr6 => ?_)
      exact zp_some ⟨hr6, ht⟩
theorem wr_f_Reader_tellThread {σ0 : zS} {τ0 : zT} {N : Nat} {σ : zS} {τ : zT}  (hs : FRd σ0 σ) (ht : GRd τ0 τ) : zp (zf_Reader_tellThread N σ τ) (fun r => FRd σ0 r.1 ∧ GRd τ0 r.2) := by
  unfold zf_Reader_tellThread
  refine zp_bind (zp_mono (wr_f_Tokens_advance  hs ht) fun r1 hr1 => ?_)
  refine zp_bind (zp_mono (wr_f_Reader_tellName  hr1.1 hr1.2) fun r2 hr2 => ?_)
  refine zp_ite (fun _ => ?_) fun _ => ?_
  ·
    exact zp_some ⟨hr2.1, hr2.2⟩
  ·
    refine zp_bind (zp_mono (wr_f_Names_forgetLocals  hr2.1) fun r4 hr4 => ?_)
    refine zp_bind (zp_mono (wr_f_Weaver_beginThread  hr4) fun r5 hr5 => ?_)
    refine zp_bind (zp_mono (wr_f_Reader_openBlock  (FRd.up (by decide) hr5) hr2.2) fun r6 hr6 => ?_)
    exact zp_some ⟨hr6.1, hr6.2⟩
theorem wr_f_Reader_tellLock {σ0 : zS} {τ0 : zT} {N : Nat} {σ : zS} {τ : zT}  (hs : FRd σ0 σ) (ht : GRd τ0 τ) : zp (zf_Reader_tellLock N σ τ) (fun r => FRd σ0 r.1 ∧ GRd τ0 r.2) := by
  unfold zf_Reader_tellLock
  refine zp_bind (zp_mono (wr_f_Tokens_advance  hs ht) fun r1 hr1 => ?_)
  refine zp_bind (zp_mono (wr_f_Reader_tellName  hr1.1 hr1.2) fun r2 hr2 => ?_)
  refine zp_ite (fun _ => ?_) fun _ => ?_
  ·
    exact zp_some ⟨hr2.1, hr2.2⟩
  ·
    refine zp_bind (zp_mono (wr_f_Reader_expect  hr2.1 hr2.2) fun r4 hr4 => ?_)
    refine zp_ite (fun _ => ?_) fun _ => ?_
    ·
      exact zp_some ⟨hr4.1, hr4.2⟩
    ·
      exact zp_some ⟨(FRd.up (by decide) hr4.1), hr4.2⟩
theorem wr_b_Program_addField_36 {σ0 : zS} {σ : zS}  (hs : FRd σ0 σ) : zp (zb_Program_addField_36 σ) (fun r => FRd σ0 r) := by
  unfold zb_Program_addField_36
  exact zp_some (FRd.up (by decide) hs)
theorem wr_f_Program_addField {σ0 : zS} {σ : zS} {x1 : Int32} {x2 : Int32}  (hs : FRd σ0 σ) : zp (zf_Program_addField σ x1 x2) (fun r => FRd σ0 r) := by
  unfold zf_Program_addField
  refine zp_ite (fun _ => ?_) fun _ => ?_
  ·
    exact wr_b_Program_addField_36  (FRd.up (by decide) hs)
  ·
    exact wr_b_Program_addField_36  (FRd.up (by decide) (FRd.up (by decide) hs))
theorem wr_b_Reader_tellField_64 {σ0 : zS} {τ0 : zT} {N : Nat} {σ : zS} {τ : zT} {v1 : Int32} {v2 : Int32}  (hs : FRd σ0 σ) (ht : GRd τ0 τ) : zp (zb_Reader_tellField_64 N σ τ v1 v2) (fun r => FRd σ0 r.1 ∧ GRd τ0 r.2) := by
  unfold zb_Reader_tellField_64
  refine zp_bind (zp_mono (wr_f_Reader_expect  hs ht) fun r5 hr5 => ?_)
  refine zp_ite (fun _ => ?_) fun _ => ?_
  ·
    exact zp_some ⟨hr5.1, hr5.2⟩
  ·
    refine zp_bind (zp_mono (wr_f_Program_addField  hr5.1) fun r7 hr7 => ?_)
    exact zp_some ⟨hr7, hr5.2⟩
theorem wr_f_Reader_tellField {σ0 : zS} {τ0 : zT} {N : Nat} {σ : zS} {τ : zT} {x1 : Int32}  (hs : FRd σ0 σ) (ht : GRd τ0 τ) : zp (zf_Reader_tellField N σ τ x1) (fun r => FRd σ0 r.1 ∧ GRd τ0 r.2) := by
  unfold zf_Reader_tellField
  refine zp_bind (zp_mono (wr_f_Tokens_advance  hs ht) fun r1 hr1 => ?_)
  refine zp_bind (zp_mono (wr_f_Reader_tellName  hr1.1 hr1.2) fun r2 hr2 => ?_)
  refine zp_ite (fun _ => ?_) fun _ => ?_
  ·
    refine zp_ite (fun _ => ?_) fun _ => ?_
    ·
      exact wr_b_Reader_tellField_64  hr2.1 hr2.2
    ·
      refine zp_bind (zp_mono (wr_f_Tokens_advance  hr2.1 hr2.2) fun r8 hr8 => ?_)
      refine zp_bind (zp_mono (wr_f_Reader_expect  hr8.1 hr8.2) fun r9 hr9 => ?_)
      refine zp_ite (fun _ => ?_) fun _ => ?_
      ·
        exact wr_b_Reader_tellField_64  hr9.1 hr9.2
      ·
        exact zp_some ⟨hr9.1, hr9.2⟩
  ·
    exact zp_some ⟨hr2.1, hr2.2⟩
theorem wr_b_Reader_readTelling_79 {σ0 : zS} {τ0 : zT} {N : Nat} {σ : zS} {τ : zT} {v1 : Int32}  (hs : FRd σ0 σ) (ht : GRd τ0 τ) : zp (zb_Reader_readTelling_79 N σ τ v1) (fun r => FRd σ0 r.1 ∧ GRd τ0 r.2) := by
  unfold zb_Reader_readTelling_79
  refine zp_ite (fun _ => ?_) fun _ => ?_
  ·
    refine zp_bind (zp_mono (wr_f_Reader_failHere  hs) fun r5 hr5 => ?_)
    exact zp_some ⟨hr5, ht⟩
  ·
    refine zp_bind (zp_mono (wr_f_Reader_tellThread  hs ht) fun r6 hr6 => ?_)
    exact zp_some ⟨hr6.1, hr6.2⟩
theorem wr_b_Reader_readTelling_61 {σ0 : zS} {τ0 : zT} {N : Nat} {σ : zS} {τ : zT} {v1 : Int32} {v2 : Int32}  (hs : FRd σ0 σ) (ht : GRd τ0 τ) : zp (zb_Reader_readTelling_61 N σ τ v1 v2) (fun r => FRd σ0 r.1 ∧ GRd τ0 r.2) := by
  unfold zb_Reader_readTelling_61
  refine zp_ite (fun _ => ?_) fun _ => ?_
  ·
    exact wr_b_Reader_readTelling_79  hs ht
  ·
    refine zp_ite (fun _ => ?_) fun _ => ?_
    ·
      exact wr_b_Reader_readTelling_79  hs ht
    ·
      refine zp_bind (zp_mono (wr_f_Reader_tellLock  hs ht) fun r8 hr8 => ?_)
      exact zp_some ⟨hr8.1, hr8.2⟩
theorem wr_b_Reader_readTelling_55 {σ0 : zS} {τ0 : zT} {N : Nat} {σ : zS} {τ : zT} {s0 : Int32}  (hs : FRd σ0 σ) (ht : GRd τ0 τ) : zp (zb_Reader_readTelling_55 N σ τ s0) (fun r => FRd σ0 r.1 ∧ GRd τ0 r.2) := by
  unfold zb_Reader_readTelling_55
  refine zp_bind (zp_mono (wr_f_Reader_tellField  hs ht) fun r11 hr11 => ?_)
  exact zp_some ⟨hr11.1, hr11.2⟩
theorem wr_b_Reader_readTelling_42 {σ0 : zS} {τ0 : zT} {N : Nat} {σ : zS} {τ : zT} {v1 : Int32}  (hs : FRd σ0 σ) (ht : GRd τ0 τ) : zp (zb_Reader_readTelling_42 N σ τ v1) (fun r => FRd σ0 r.1 ∧ GRd τ0 r.2) := by
  unfold zb_Reader_readTelling_42
  refine zp_ite (fun _ => ?_) fun _ => ?_
  ·
    exact wr_b_Reader_readTelling_55  hs ht
  ·
    exact wr_b_Reader_readTelling_55  hs ht
theorem wr_b_Reader_readTelling_23 {σ0 : zS} {τ0 : zT} {N : Nat} {σ : zS} {τ : zT} {v1 : Int32} {s0 : Int32}  (hs : FRd σ0 σ) (ht : GRd τ0 τ) : zp (zb_Reader_readTelling_23 N σ τ v1 s0) (fun r => FRd σ0 r.1 ∧ GRd τ0 r.2) := by
  unfold zb_Reader_readTelling_23
  refine zp_ite (fun _ => ?_) fun _ => ?_
  ·
    exact wr_b_Reader_readTelling_61  hs ht
  ·
    refine zp_ite (fun _ => ?_) fun _ => ?_
    ·
      exact wr_b_Reader_readTelling_42  hs ht
    ·
      refine zp_ite (fun _ => ?_) fun _ => ?_
      ·
        exact wr_b_Reader_readTelling_61  hs ht
      ·
        exact wr_b_Reader_readTelling_42  hs ht
theorem wr_f_Reader_readTelling {σ0 : zS} {τ0 : zT} {N : Nat} {σ : zS} {τ : zT}  (hs : FRd σ0 σ) (ht : GRd τ0 τ) : zp (zf_Reader_readTelling N σ τ) (fun r => FRd σ0 r.1 ∧ GRd τ0 r.2) := by
  unfold zf_Reader_readTelling
  refine zp_ite (fun _ => ?_) fun _ => ?_
  ·
    exact wr_b_Reader_readTelling_23  hs ht
  ·
    exact wr_b_Reader_readTelling_23  hs ht
theorem wr_f_Reader_readSpan {σ0 : zS} {τ0 : zT} {σ : zS} {τ : zT}  (hs : FRd σ0 σ) (ht : GRd τ0 τ) : zp (zf_Reader_readSpan σ τ) (fun r => FRd σ0 r.1 ∧ GRd τ0 r.2) := by
  unfold zf_Reader_readSpan
  refine zp_bind fun r1 _ => ?_
  refine zp_ite (fun _ => ?_) fun _ => ?_
  ·
    refine zp_ite (fun _ => ?_) fun _ => ?_
    ·
      refine zp_bind (zp_mono (wr_f_Tokens_advance  hs ht) fun r4 hr4 => ?_)
      refine zp_bind (zp_mono (wr_f_Reader_openBlock  hr4.1 hr4.2) fun r5 hr5 => ?_)
      exact zp_some ⟨hr5.1, hr5.2⟩
    ·
      refine zp_bind (zp_mono (wr_f_Reader_failHere  hs) fun r6 hr6 => ?_)
      exact zp_some ⟨hr6, ht⟩
  ·
    refine zp_bind (zp_mono (wr_f_Reader_failHere  hs) fun r7 hr7 => ?_)
    exact zp_some ⟨hr7, ht⟩
theorem wr_b_Reader_hasRoomForStep_18 {σ0 : zS} {σ : zS}  (hs : FRd σ0 σ) : zp (zb_Reader_hasRoomForStep_18 σ) (fun r => FRd σ0 r.2) := by
  unfold zb_Reader_hasRoomForStep_18
  exact zp_some hs
theorem wr_f_Reader_hasRoomForStep {σ0 : zS} {σ : zS}  (hs : FRd σ0 σ) : zp (zf_Reader_hasRoomForStep σ) (fun r => FRd σ0 r.2) := by
  unfold zf_Reader_hasRoomForStep
  refine zp_bind fun r1 _ => ?_
  refine zp_ite (fun _ => ?_) fun _ => ?_
  ·
    exact wr_b_Reader_hasRoomForStep_18  hs
  ·
    refine zp_bind (zp_mono (wr_f_Reader_failHere  hs) fun r3 hr3 => ?_)
    refine zp_ite (fun _ => ?_) fun _ => ?_
    ·
      exact zp_some hr3
    ·
      exact wr_b_Reader_hasRoomForStep_18  hr3
theorem wr_b_Weaver_closeOpen_70 {σ0 : zS} {k2 : zS → Int32 → Int32 → Option (zS)} {N : Nat} {σ : zS} {v1 : Int32} {v2 : Int32} (hk2 : ∀ (y0 : zS) (y1 : Int32) (y2 : Int32), FRd σ0 y0 → zp (k2 y0 y1 y2) (fun r => FRd σ0 r)) (hs : FRd σ0 σ) : zp (zb_Weaver_closeOpen_70 k2 N σ v1 v2) (fun r => FRd σ0 r) := by
  unfold zb_Weaver_closeOpen_70
  exact hk2 _ _ _ hs
theorem wr_b_Weaver_closeOpen_49 {σ0 : zS} {k2 : zS → Int32 → Int32 → Option (zS)} {N : Nat} {σ : zS} {v1 : Int32} {v2 : Int32} {v3 : Int32} (hk2 : ∀ (y0 : zS) (y1 : Int32) (y2 : Int32), FRd σ0 y0 → zp (k2 y0 y1 y2) (fun r => FRd σ0 r)) (hs : FRd σ0 σ) : zp (zb_Weaver_closeOpen_49 k2 N σ v1 v2 v3) (fun r => FRd σ0 r) := by
  unfold zb_Weaver_closeOpen_49
  refine zp_ite (fun _ => ?_) fun _ => ?_
  ·
    exact wr_b_Weaver_closeOpen_70 (hk2) hs
  ·
    refine zp_chk fun _ => ?_
    exact wr_b_Weaver_closeOpen_70 (hk2) (FRd.up (by decide) hs)
theorem wr_b_Weaver_closeOpen_2 {σ0 : zS} {N : Nat}  : ∀ (n : Nat) (σ : zS) (v1 : Int32) (v2 : Int32), FRd σ0 σ → zp (zb_Weaver_closeOpen_2 N n σ v1 v2) (fun r => FRd σ0 r) := by
  intro n
  induction n with
  | zero => intro _ _ _ _; exact zp_none
  | succ n ih =>
    intro σ v1 v2 hs
    rw [zb_Weaver_closeOpen_2]
    refine zp_ite (fun _ => ?_) fun _ => ?_
    ·
      exact zp_some (FRd.up (by decide) (FRd.up (by decide) hs))
    ·
      refine zp_ite (fun _ => ?_) fun _ => ?_
      ·
        exact wr_b_Weaver_closeOpen_70 (ih) hs
      ·
        refine zp_ite (fun _ => ?_) fun _ => ?_
        ·
          exact wr_b_Weaver_closeOpen_70 (ih) hs
        ·
          refine zp_ite (fun _ => ?_) fun _ => ?_
          ·
            exact wr_b_Weaver_closeOpen_49 (ih) hs
          ·
            refine zp_chk fun _ => ?_
            exact wr_b_Weaver_closeOpen_49 (ih) (FRd.up (by decide) hs)
theorem wr_f_Weaver_closeOpen {σ0 : zS} {N : Nat} {σ : zS} {x1 : Int32}  (hs : FRd σ0 σ) : zp (zf_Weaver_closeOpen N σ x1) (fun r => FRd σ0 r) := by
  unfold zf_Weaver_closeOpen
  exact wr_b_Weaver_closeOpen_2  _ _ _ _ hs
theorem wr_f_Program_addStep {σ0 : zS} {σ : zS} {x1 : Int32} {x2 : Int32} {x3 : Int32} {x4 : Int32} {x5 : Int32}  (hs : FRd σ0 σ) : zp (zf_Program_addStep σ x1 x2 x3 x4 x5) (fun r => FRd σ0 r.2) := by
  unfold zf_Program_addStep
  refine zp_ite (fun _ => ?_) fun _ => ?_
  ·
    exact zp_some hs
  ·
    refine zp_ite (fun _ => ?_) fun _ => ?_
    ·
      exact zp_some hs
    ·
      refine zp_chk fun _ => ?_
      refine zp_ite (fun _ => ?_) fun _ => ?_
      ·
        exact zp_some hs
      ·
        refine zp_chk fun _ => ?_
        refine zp_ite (fun _ => ?_) fun _ => ?_
        ·
          refine zp_chk fun _ => ?_
          refine zp_chk fun _ => ?_
          refine zp_chk fun _ => ?_
          refine zp_chk fun _ => ?_
          refine zp_chk fun _ => ?_
          refine zp_chk fun _ => ?_
          refine zp_chk fun _ => ?_
          refine zp_chk fun _ => ?_
          refine zp_chk fun _ => ?_
          exact zp_some (FRd.up (by decide) (FRd.up (by decide) (FRd.up (by decide) (FRd.up (by decide) (FRd.up (by decide) (FRd.up (by decide) (FRd.up (by decide) (FRd.up (by decide) hs))))))))
        ·
          exact zp_some hs
theorem wr_b_Weaver_emit_59 {σ0 : zS} {N : Nat} {σ : zS} {s0 : Int32}  (hs : FRd σ0 σ) : zp (zb_Weaver_emit_59 N σ s0) (fun r => FRd σ0 r) := by
  unfold zb_Weaver_emit_59
  exact zp_some (FRd.up (by decide) hs)
theorem wr_f_Weaver_emit {σ0 : zS} {N : Nat} {σ : zS} {x1 : Int32} {x2 : Int32}  (hs : FRd σ0 σ) : zp (zf_Weaver_emit N σ x1 x2) (fun r => FRd σ0 r) := by
  unfold zf_Weaver_emit
  refine zp_bind fun r1 _ => ?_
  refine zp_bind (zp_mono (wr_f_Weaver_closeOpen  hs) fun r2 hr2 => ?_)
  refine zp_bind (zp_mono (wr_f_Program_addStep  hr2) fun r3 hr3 => ?_)
  refine zp_ite (fun _ => ?_) fun _ => ?_
  ·
    exact wr_b_Weaver_emit_59  (FRd.up (by decide) hr3)
  ·
    exact wr_b_Weaver_emit_59  (FRd.up (by decide) hr3)
theorem wr_f_Reader_readStop {σ0 : zS} {τ0 : zT} {N : Nat} {σ : zS} {τ : zT}  (hs : FRd σ0 σ) (ht : GRd τ0 τ) : zp (zf_Reader_readStop N σ τ) (fun r => FRd σ0 r.1 ∧ GRd τ0 r.2) := by
  unfold zf_Reader_readStop
  refine zp_bind (zp_mono (wr_f_Reader_hasRoomForStep  hs) fun r1 hr1 => ?_)
  refine zp_ite (fun _ => ?_) fun _ => ?_
  ·
    exact zp_some ⟨hr1, ht⟩
  ·
    refine zp_bind (zp_mono (wr_f_Tokens_advance  hr1 ht) fun r3 hr3 => ?_)
    refine zp_bind (zp_mono (wr_f_Weaver_emit  hr3.1) fun r4 hr4 => ?_)
    refine zp_bind (zp_mono (wr_f_Reader_expect  hr4 hr3.2) fun r5 hr5 => ?_)
    exact zp_some ⟨hr5.1, hr5.2⟩
theorem wr_b_Reader_failAtWrongToken_63 {σ0 : zS} {N : Nat} {σ : zS} {τ : zT} {s0 : Int32}  (hs : FRd σ0 σ) : zp (zb_Reader_failAtWrongToken_63 N σ τ s0) (fun r => FRd σ0 r) := by
  unfold zb_Reader_failAtWrongToken_63
  refine zp_bind (zp_mono (wr_f_Reader_failHere  hs) fun r3 hr3 => ?_)
  exact zp_some hr3
theorem wr_b_Reader_failAtWrongToken_52 {σ0 : zS} {N : Nat} {σ : zS} {τ : zT} {s0 : Int32}  (hs : FRd σ0 σ) : zp (zb_Reader_failAtWrongToken_52 N σ τ s0) (fun r => FRd σ0 r) := by
  unfold zb_Reader_failAtWrongToken_52
  refine zp_ite (fun _ => ?_) fun _ => ?_
  ·
    exact wr_b_Reader_failAtWrongToken_63  hs
  ·
    exact wr_b_Reader_failAtWrongToken_63  hs
theorem wr_b_Reader_failAtWrongToken_51 {σ0 : zS} {N : Nat} {σ : zS} {τ : zT}  (hs : FRd σ0 σ) : zp (zb_Reader_failAtWrongToken_51 N σ τ) (fun r => FRd σ0 r) := by
  unfold zb_Reader_failAtWrongToken_51
  exact wr_b_Reader_failAtWrongToken_52  hs
theorem wr_f_Reader_failAtWrongToken {σ0 : zS} {N : Nat} {σ : zS} {τ : zT}  (hs : FRd σ0 σ) : zp (zf_Reader_failAtWrongToken N σ τ) (fun r => FRd σ0 r) := by
  unfold zf_Reader_failAtWrongToken
  refine zp_ite (fun _ => ?_) fun _ => ?_
  ·
    exact wr_b_Reader_failAtWrongToken_51  hs
  ·
    refine zp_bind fun r4 _ => ?_
    refine zp_ite (fun _ => ?_) fun _ => ?_
    ·
      exact wr_b_Reader_failAtWrongToken_51  hs
    ·
      refine zp_bind fun r6 _ => ?_
      refine zp_ite (fun _ => ?_) fun _ => ?_
      ·
        exact wr_b_Reader_failAtWrongToken_51  hs
      ·
        exact wr_b_Reader_failAtWrongToken_52  hs
theorem wr_b_Reader_takeTestValue_72 {σ0 : zS} {τ0 : zT} {N : Nat} {σ : zS} {τ : zT} {s0 : Int32}  (hs : FRd σ0 σ) (ht : GRd τ0 τ) : zp (zb_Reader_takeTestValue_72 N σ τ s0) (fun r => FRd σ0 r.2.1 ∧ GRd τ0 r.2.2) := by
  unfold zb_Reader_takeTestValue_72
  refine zp_bind (zp_mono (wr_f_Tokens_advance  hs ht) fun r4 hr4 => ?_)
  exact zp_some ⟨hr4.1, hr4.2⟩
theorem wr_b_Reader_takeTestValue_52 {σ0 : zS} {τ0 : zT} {N : Nat} {σ : zS} {τ : zT} {v1 : Int32}  (hs : FRd σ0 σ) (ht : GRd τ0 τ) : zp (zb_Reader_takeTestValue_52 N σ τ v1) (fun r => FRd σ0 r.2.1 ∧ GRd τ0 r.2.2) := by
  unfold zb_Reader_takeTestValue_52
  refine zp_ite (fun _ => ?_) fun _ => ?_
  ·
    exact wr_b_Reader_takeTestValue_72  hs ht
  ·
    exact wr_b_Reader_takeTestValue_72  hs ht
theorem wr_b_Reader_takeTestValue_29 {σ0 : zS} {τ0 : zT} {N : Nat} {σ : zS} {τ : zT} {s0 : Int32}  (hs : FRd σ0 σ) (ht : GRd τ0 τ) : zp (zb_Reader_takeTestValue_29 N σ τ s0) (fun r => FRd σ0 r.2.1 ∧ GRd τ0 r.2.2) := by
  unfold zb_Reader_takeTestValue_29
  refine zp_ite (fun _ => ?_) fun _ => ?_
  ·
    exact wr_b_Reader_takeTestValue_52  hs ht
  ·
    refine zp_ite (fun _ => ?_) fun _ => ?_
    ·
      exact wr_b_Reader_takeTestValue_52  hs ht
    ·
      refine zp_bind (zp_mono (wr_f_Reader_failAtWrongToken  hs) fun r6 hr6 => ?_)
      exact zp_some ⟨hr6, ht⟩
theorem wr_f_Reader_takeTestValue {σ0 : zS} {τ0 : zT} {N : Nat} {σ : zS} {τ : zT}  (hs : FRd σ0 σ) (ht : GRd τ0 τ) : zp (zf_Reader_takeTestValue N σ τ) (fun r => FRd σ0 r.2.1 ∧ GRd τ0 r.2.2) := by
  unfold zf_Reader_takeTestValue
  refine zp_ite (fun _ => ?_) fun _ => ?_
  ·
    exact wr_b_Reader_takeTestValue_29  hs ht
  ·
    refine zp_bind fun r7 _ => ?_
    exact wr_b_Reader_takeTestValue_29  hs ht
theorem wr_f_Weaver_work {σ0 : zS} {σ : zS} {x1 : Int32} {x2 : Int32} {x3 : Int32} {x4 : Int32}  (hs : FRd σ0 σ) : zp (zf_Weaver_work σ x1 x2 x3 x4) (fun r => FRd σ0 r) := by
  unfold zf_Weaver_work
  refine zp_bind fun r1 _ => ?_
  refine zp_chk fun _ => ?_
  refine zp_chk fun _ => ?_
  refine zp_chk fun _ => ?_
  refine zp_chk fun _ => ?_
  exact zp_some (FRd.up (by decide) (FRd.up (by decide) (FRd.up (by decide) (FRd.up (by decide) hs))))
theorem wr_b_Reader_readTest_52 {σ0 : zS} {τ0 : zT} {N : Nat} {σ : zS} {τ : zT} {v1 : Int32} {v2 : Int32} {v3 : Int32}  (hs : FRd σ0 σ) (ht : GRd τ0 τ) : zp (zb_Reader_readTest_52 N σ τ v1 v2 v3) (fun r => FRd σ0 r.2.1 ∧ GRd τ0 r.2.2) := by
  unfold zb_Reader_readTest_52
  refine zp_bind (zp_mono (wr_f_Tokens_advance  hs ht) fun r4 hr4 => ?_)
  refine zp_bind (zp_mono (wr_f_Reader_takeTestValue  hr4.1 hr4.2) fun r5 hr5 => ?_)
  refine zp_ite (fun _ => ?_) fun _ => ?_
  ·
    refine zp_bind (zp_mono (wr_f_Weaver_emit  hr5.1) fun r7 hr7 => ?_)
    refine zp_bind (zp_mono (wr_f_Weaver_work  hr7) fun r8 hr8 => ?_)
    exact zp_some ⟨hr8, hr5.2⟩
  ·
    exact zp_some ⟨hr5.1, hr5.2⟩
theorem wr_f_Reader_readTest {σ0 : zS} {τ0 : zT} {N : Nat} {σ : zS} {τ : zT} {x1 : Int32}  (hs : FRd σ0 σ) (ht : GRd τ0 τ) : zp (zf_Reader_readTest N σ τ x1) (fun r => FRd σ0 r.2.1 ∧ GRd τ0 r.2.2) := by
  unfold zf_Reader_readTest
  refine zp_bind (zp_mono (wr_f_Reader_takeTestValue  hs ht) fun r1 hr1 => ?_)
  refine zp_ite (fun _ => ?_) fun _ => ?_
  ·
    refine zp_ite (fun _ => ?_) fun _ => ?_
    ·
      exact wr_b_Reader_readTest_52  hr1.1 hr1.2
    ·
      refine zp_ite (fun _ => ?_) fun _ => ?_
      ·
        exact wr_b_Reader_readTest_52  hr1.1 hr1.2
      ·
        refine zp_ite (fun _ => ?_) fun _ => ?_
        ·
          exact wr_b_Reader_readTest_52  hr1.1 hr1.2
        ·
          refine zp_ite (fun _ => ?_) fun _ => ?_
          ·
            exact wr_b_Reader_readTest_52  hr1.1 hr1.2
          ·
            refine zp_bind (zp_mono (wr_f_Reader_failHere  hr1.1) fun r12 hr12 => ?_)
            refine zp_chk fun _ => ?_
            exact zp_some ⟨hr12, hr1.2⟩
  ·
    exact zp_some ⟨hr1.1, hr1.2⟩
theorem wr_f_Reader_readCheck {σ0 : zS} {τ0 : zT} {N : Nat} {σ : zS} {τ : zT}  (hs : FRd σ0 σ) (ht : GRd τ0 τ) : zp (zf_Reader_readCheck N σ τ) (fun r => FRd σ0 r.1 ∧ GRd τ0 r.2) := by
  unfold zf_Reader_readCheck
  refine zp_bind (zp_mono (wr_f_Reader_hasRoomForStep  hs) fun r1 hr1 => ?_)
  refine zp_ite (fun _ => ?_) fun _ => ?_
  ·
    exact zp_some ⟨hr1, ht⟩
  ·
    refine zp_bind (zp_mono (wr_f_Tokens_advance  hr1 ht) fun r3 hr3 => ?_)
    refine zp_bind (zp_mono (wr_f_Reader_readTest  hr3.1 hr3.2) fun r4 hr4 => ?_)
    refine zp_ite (fun _ => ?_) fun _ => ?_
    ·
      exact zp_some ⟨hr4.1, hr4.2⟩
    ·
      refine zp_bind (zp_mono (wr_f_Reader_expect  hr4.1 hr4.2) fun r6 hr6 => ?_)
      exact zp_some ⟨hr6.1, hr6.2⟩
theorem wr_b_Reader_readThreadStep_126 {σ0 : zS} {τ0 : zT} {N : Nat} {σ : zS} {τ : zT}  (hs : FRd σ0 σ) (ht : GRd τ0 τ) : zp (zb_Reader_readThreadStep_126 N σ τ) (fun r => FRd σ0 r.1 ∧ GRd τ0 r.2) := by
  unfold zb_Reader_readThreadStep_126
  refine zp_bind (zp_mono (wr_f_Tokens_advance  hs ht) fun r11 hr11 => ?_)
  refine zp_bind (zp_mono (wr_f_Reader_expect  hr11.1 hr11.2) fun r12 hr12 => ?_)
  exact zp_some ⟨hr12.1, hr12.2⟩
theorem wr_b_Reader_readThreadStep_54 {σ0 : zS} {τ0 : zT} {N : Nat} {σ : zS} {τ : zT}  (hs : FRd σ0 σ) (ht : GRd τ0 τ) : zp (zb_Reader_readThreadStep_54 N σ τ) (fun r => FRd σ0 r.1 ∧ GRd τ0 r.2) := by
  unfold zb_Reader_readThreadStep_54
  refine zp_bind (zp_mono (wr_f_Reader_failHere  hs) fun r6 hr6 => ?_)
  exact zp_some ⟨hr6, ht⟩
theorem wr_b_Reader_readThreadStep_44 {σ0 : zS} {τ0 : zT} {N : Nat} {σ : zS} {τ : zT} {v1 : Int32} {s0 : Int32}  (hs : FRd σ0 σ) (ht : GRd τ0 τ) : zp (zb_Reader_readThreadStep_44 N σ τ v1 s0) (fun r => FRd σ0 r.1 ∧ GRd τ0 r.2) := by
  unfold zb_Reader_readThreadStep_44
  refine zp_ite (fun _ => ?_) fun _ => ?_
  ·
    exact wr_b_Reader_readThreadStep_54  hs ht
  ·
    refine zp_ite (fun _ => ?_) fun _ => ?_
    ·
      refine zp_bind (zp_mono (wr_f_Weaver_emit  hs) fun r8 hr8 => ?_)
      refine zp_bind fun r9 _ => ?_
      refine zp_ite (fun _ => ?_) fun _ => ?_
      ·
        exact wr_b_Reader_readThreadStep_126  hr8 ht
      ·
        refine zp_chk fun _ => ?_
        refine zp_chk fun _ => ?_
        exact wr_b_Reader_readThreadStep_126  (FRd.up (by decide) hr8) (GRd.up (by decide) ht)
    ·
      exact wr_b_Reader_readThreadStep_54  hs ht
theorem wr_f_Reader_readThreadStep {σ0 : zS} {τ0 : zT} {N : Nat} {σ : zS} {τ : zT} {x1 : Int32}  (hs : FRd σ0 σ) (ht : GRd τ0 τ) : zp (zf_Reader_readThreadStep N σ τ x1) (fun r => FRd σ0 r.1 ∧ GRd τ0 r.2) := by
  unfold zf_Reader_readThreadStep
  refine zp_bind (zp_mono (wr_f_Reader_hasRoomForStep  hs) fun r1 hr1 => ?_)
  refine zp_ite (fun _ => ?_) fun _ => ?_
  ·
    refine zp_bind (zp_mono (wr_f_Tokens_advance  hr1 ht) fun r3 hr3 => ?_)
    refine zp_ite (fun _ => ?_) fun _ => ?_
    ·
      exact wr_b_Reader_readThreadStep_44  hr3.1 hr3.2
    ·
      refine zp_bind fun r15 _ => ?_
      exact wr_b_Reader_readThreadStep_44  hr3.1 hr3.2
  ·
    exact zp_some ⟨hr1, ht⟩
theorem wr_b_Reader_takeLockName_30 {σ0 : zS} {τ0 : zT} {N : Nat} {σ : zS} {τ : zT} {s0 : Int32}  (hs : FRd σ0 σ) (ht : GRd τ0 τ) : zp (zb_Reader_takeLockName_30 N σ τ s0) (fun r => FRd σ0 r.2.1 ∧ GRd τ0 r.2.2) := by
  unfold zb_Reader_takeLockName_30
  refine zp_ite (fun _ => ?_) fun _ => ?_
  ·
    refine zp_bind (zp_mono (wr_f_Reader_failAtWrongToken  hs) fun r3 hr3 => ?_)
    exact zp_some ⟨hr3, ht⟩
  ·
    refine zp_bind (zp_mono (wr_f_Tokens_advance  hs ht) fun r4 hr4 => ?_)
    exact zp_some ⟨hr4.1, hr4.2⟩
theorem wr_f_Reader_takeLockName {σ0 : zS} {τ0 : zT} {N : Nat} {σ : zS} {τ : zT}  (hs : FRd σ0 σ) (ht : GRd τ0 τ) : zp (zf_Reader_takeLockName N σ τ) (fun r => FRd σ0 r.2.1 ∧ GRd τ0 r.2.2) := by
  unfold zf_Reader_takeLockName
  refine zp_ite (fun _ => ?_) fun _ => ?_
  ·
    exact wr_b_Reader_takeLockName_30  hs ht
  ·
    refine zp_bind fun r5 _ => ?_
    exact wr_b_Reader_takeLockName_30  hs ht
theorem wr_b_Reader_readSignal_75 {σ0 : zS} {τ0 : zT} {N : Nat} {σ : zS} {τ : zT} {v3 : Int32} {s0 : Int32}  (hs : FRd σ0 σ) (ht : GRd τ0 τ) : zp (zb_Reader_readSignal_75 N σ τ v3 s0) (fun r => FRd σ0 r.1 ∧ GRd τ0 r.2) := by
  unfold zb_Reader_readSignal_75
  refine zp_bind (zp_mono (wr_f_Weaver_emit  hs) fun r9 hr9 => ?_)
  refine zp_bind (zp_mono (wr_f_Reader_expect  hr9 ht) fun r10 hr10 => ?_)
  exact zp_some ⟨hr10.1, hr10.2⟩
theorem wr_b_Reader_readSignal_51 {σ0 : zS} {τ0 : zT} {N : Nat} {σ : zS} {τ : zT} {v1 : Int32} {v2 : Int32}  (hs : FRd σ0 σ) (ht : GRd τ0 τ) : zp (zb_Reader_readSignal_51 N σ τ v1 v2) (fun r => FRd σ0 r.1 ∧ GRd τ0 r.2) := by
  unfold zb_Reader_readSignal_51
  refine zp_bind (zp_mono (wr_f_Reader_takeLockName  hs ht) fun r6 hr6 => ?_)
  refine zp_ite (fun _ => ?_) fun _ => ?_
  ·
    exact zp_some ⟨hr6.1, hr6.2⟩
  ·
    refine zp_ite (fun _ => ?_) fun _ => ?_
    ·
      exact wr_b_Reader_readSignal_75  hr6.1 hr6.2
    ·
      exact wr_b_Reader_readSignal_75  hr6.1 hr6.2
theorem wr_b_Reader_readSignal_39 {σ0 : zS} {τ0 : zT} {N : Nat} {σ : zS} {τ : zT} {v1 : Int32} {s0 : Int32}  (hs : FRd σ0 σ) (ht : GRd τ0 τ) : zp (zb_Reader_readSignal_39 N σ τ v1 s0) (fun r => FRd σ0 r.1 ∧ GRd τ0 r.2) := by
  unfold zb_Reader_readSignal_39
  refine zp_ite (fun _ => ?_) fun _ => ?_
  ·
    exact wr_b_Reader_readSignal_51  hs ht
  ·
    refine zp_bind (zp_mono (wr_f_Tokens_advance  hs ht) fun r11 hr11 => ?_)
    exact wr_b_Reader_readSignal_51  hr11.1 hr11.2
theorem wr_b_Reader_readSignal_38 {σ0 : zS} {τ0 : zT} {N : Nat} {σ : zS} {τ : zT} {v1 : Int32}  (hs : FRd σ0 σ) (ht : GRd τ0 τ) : zp (zb_Reader_readSignal_38 N σ τ v1) (fun r => FRd σ0 r.1 ∧ GRd τ0 r.2) := by
  unfold zb_Reader_readSignal_38
  exact wr_b_Reader_readSignal_39  hs ht
theorem wr_f_Reader_readSignal {σ0 : zS} {τ0 : zT} {N : Nat} {σ : zS} {τ : zT} {x1 : Int32}  (hs : FRd σ0 σ) (ht : GRd τ0 τ) : zp (zf_Reader_readSignal N σ τ x1) (fun r => FRd σ0 r.1 ∧ GRd τ0 r.2) := by
  unfold zf_Reader_readSignal
  refine zp_bind (zp_mono (wr_f_Reader_hasRoomForStep  hs) fun r1 hr1 => ?_)
  refine zp_ite (fun _ => ?_) fun _ => ?_
  ·
    refine zp_bind (zp_mono (wr_f_Tokens_advance  hr1 ht) fun r3 hr3 => ?_)
    refine zp_ite (fun _ => ?_) fun _ => ?_
    ·
      exact wr_b_Reader_readSignal_38  hr3.1 hr3.2
    ·
      refine zp_ite (fun _ => ?_) fun _ => ?_
      ·
        exact wr_b_Reader_readSignal_38  hr3.1 hr3.2
      ·
        exact wr_b_Reader_readSignal_39  hr3.1 hr3.2
  ·
    exact zp_some ⟨hr1, ht⟩
theorem wr_f_Reader_readBranch {σ0 : zS} {τ0 : zT} {N : Nat} {σ : zS} {τ : zT} {x1 : Int32} {x2 : Int32}  (hs : FRd σ0 σ) (ht : GRd τ0 τ) : zp (zf_Reader_readBranch N σ τ x1 x2) (fun r => FRd σ0 r.1 ∧ GRd τ0 r.2) := by
  unfold zf_Reader_readBranch
  refine zp_bind (zp_mono (wr_f_Reader_hasRoomForStep  hs) fun r1 hr1 => ?_)
  refine zp_ite (fun _ => ?_) fun _ => ?_
  ·
    exact zp_some ⟨hr1, ht⟩
  ·
    refine zp_bind (zp_mono (wr_f_Tokens_advance  hr1 ht) fun r3 hr3 => ?_)
    refine zp_bind (zp_mono (wr_f_Reader_readTest  hr3.1 hr3.2) fun r4 hr4 => ?_)
    refine zp_ite (fun _ => ?_) fun _ => ?_
    ·
      exact zp_some ⟨hr4.1, hr4.2⟩
    ·
      refine zp_bind (zp_mono (wr_f_Reader_openBlock  hr4.1 hr4.2) fun r6 hr6 => ?_)
      exact zp_some ⟨hr6.1, hr6.2⟩
theorem wr_f_Reader_readLock {σ0 : zS} {τ0 : zT} {N : Nat} {σ : zS} {τ : zT}  (hs : FRd σ0 σ) (ht : GRd τ0 τ) : zp (zf_Reader_readLock N σ τ) (fun r => FRd σ0 r.1 ∧ GRd τ0 r.2) := by
  unfold zf_Reader_readLock
  refine zp_bind (zp_mono (wr_f_Reader_hasRoomForStep  hs) fun r1 hr1 => ?_)
  refine zp_ite (fun _ => ?_) fun _ => ?_
  ·
    exact zp_some ⟨hr1, ht⟩
  ·
    refine zp_bind (zp_mono (wr_f_Tokens_advance  hr1 ht) fun r3 hr3 => ?_)
    refine zp_bind (zp_mono (wr_f_Reader_takeLockName  hr3.1 hr3.2) fun r4 hr4 => ?_)
    refine zp_ite (fun _ => ?_) fun _ => ?_
    ·
      exact zp_some ⟨hr4.1, hr4.2⟩
    ·
      refine zp_bind (zp_mono (wr_f_Weaver_emit  hr4.1) fun r6 hr6 => ?_)
      refine zp_bind (zp_mono (wr_f_Reader_openBlock  hr6 hr4.2) fun r7 hr7 => ?_)
      exact zp_some ⟨hr7.1, hr7.2⟩
theorem wr_b_Weaver_finishThread_67 {σ0 : zS} {k19 : zS → Int32 → Int32 → Option (zS)} {N : Nat} {σ : zS} {v1 : Int32} {v2 : Int32} (hk19 : ∀ (y0 : zS) (y1 : Int32) (y2 : Int32), FRd σ0 y0 → zp (k19 y0 y1 y2) (fun r => FRd σ0 r)) (hs : FRd σ0 σ) : zp (zb_Weaver_finishThread_67 k19 N σ v1 v2) (fun r => FRd σ0 r) := by
  unfold zb_Weaver_finishThread_67
  exact hk19 _ _ _ hs
theorem wr_b_Weaver_finishThread_19 {σ0 : zS} {N : Nat}  : ∀ (n : Nat) (σ : zS) (v1 : Int32) (v2 : Int32), FRd σ0 σ → zp (zb_Weaver_finishThread_19 N n σ v1 v2) (fun r => FRd σ0 r) := by
  intro n
  induction n with
  | zero => intro _ _ _ _; exact zp_none
  | succ n ih =>
    intro σ v1 v2 hs
    rw [zb_Weaver_finishThread_19]
    refine zp_ite (fun _ => ?_) fun _ => ?_
    ·
      exact zp_some hs
    ·
      refine zp_ite (fun _ => ?_) fun _ => ?_
      ·
        exact zp_some hs
      ·
        refine zp_bind fun r5 _ => ?_
        refine zp_chk fun _ => ?_
        refine zp_ite (fun _ => ?_) fun _ => ?_
        ·
          exact wr_b_Weaver_finishThread_67 (ih) hs
        ·
          refine zp_chk fun _ => ?_
          exact wr_b_Weaver_finishThread_67 (ih) (FRd.up (by decide) hs)
theorem wr_f_Weaver_finishThread {σ0 : zS} {N : Nat} {σ : zS}  (hs : FRd σ0 σ) : zp (zf_Weaver_finishThread N σ) (fun r => FRd σ0 r) := by
  unfold zf_Weaver_finishThread
  refine zp_bind fun r1 _ => ?_
  refine zp_bind (zp_mono (wr_f_Weaver_closeOpen  hs) fun r2 hr2 => ?_)
  exact wr_b_Weaver_finishThread_19  _ _ _ _ hr2
theorem wr_b_Weaver_leave_166 {σ0 : zS} {N : Nat} {σ : zS} {v1 : Int32}  (hs : FRd σ0 σ) : zp (zb_Weaver_leave_166 N σ v1) (fun r => FRd σ0 r) := by
  unfold zb_Weaver_leave_166
  exact zp_some (FRd.up (by decide) hs)
theorem wr_f_Weaver_leave {σ0 : zS} {N : Nat} {σ : zS}  (hs : FRd σ0 σ) : zp (zf_Weaver_leave N σ) (fun r => FRd σ0 r) := by
  unfold zf_Weaver_leave
  refine zp_ite (fun _ => ?_) fun _ => ?_
  ·
    exact zp_some hs
  ·
    refine zp_ite (fun _ => ?_) fun _ => ?_
    ·
      refine zp_chk fun _ => ?_
      refine zp_chk fun _ => ?_
      refine zp_ite (fun _ => ?_) fun _ => ?_
      ·
        refine zp_bind (zp_mono (wr_f_Weaver_finishThread  hs) fun r15 hr15 => ?_)
        exact wr_b_Weaver_leave_166  hr15
      ·
        refine zp_ite (fun _ => ?_) fun _ => ?_
        ·
          refine zp_bind (zp_mono (wr_f_Weaver_emit  hs) fun r13 hr13 => ?_)
          refine zp_chk fun _ => ?_
          exact wr_b_Weaver_leave_166  (FRd.up (by decide) hr13)
        ·
          refine zp_ite (fun _ => ?_) fun _ => ?_
          ·
            exact wr_b_Weaver_leave_166  (FRd.up (by decide) hs)
          ·
            refine zp_ite (fun _ => ?_) fun _ => ?_
            ·
              exact wr_b_Weaver_leave_166  (FRd.up (by decide) hs)
            ·
              refine zp_ite (fun _ => ?_) fun _ => ?_
              ·
                refine zp_chk fun _ => ?_
                refine zp_chk fun _ => ?_
                exact wr_b_Weaver_leave_166  (FRd.up (by decide) (FRd.up (by decide) hs))
              ·
                refine zp_bind (zp_mono (wr_f_Weaver_closeOpen  hs) fun r10 hr10 => ?_)
                exact wr_b_Weaver_leave_166  (FRd.up (by decide) hr10)
    ·
      exact zp_some hs
theorem wr_f_Weaver_turnToElse {σ0 : zS} {σ : zS}  (hs : FRd σ0 σ) : zp (zf_Weaver_turnToElse σ) (fun r => FRd σ0 r) := by
  unfold zf_Weaver_turnToElse
  refine zp_ite (fun _ => ?_) fun _ => ?_
  ·
    exact zp_some hs
  ·
    refine zp_ite (fun _ => ?_) fun _ => ?_
    ·
      exact zp_some hs
    ·
      refine zp_chk fun _ => ?_
      refine zp_chk fun _ => ?_
      refine zp_chk fun _ => ?_
      refine zp_chk fun _ => ?_
      exact zp_some (FRd.up (by decide) (FRd.up (by decide) (FRd.up (by decide) (FRd.up (by decide) (FRd.up (by decide) hs)))))
theorem wr_b_Reader_closeBlock_70 {σ0 : zS} {τ0 : zT} {N : Nat} {σ : zS} {τ : zT}  (hs : FRd σ0 σ) (ht : GRd τ0 τ) : zp (zb_Reader_closeBlock_70 N σ τ) (fun r => FRd σ0 r.1 ∧ GRd τ0 r.2) := by
  unfold zb_Reader_closeBlock_70
  refine zp_bind (zp_mono (wr_f_Weaver_leave  hs) fun r5 hr5 => ?_)
  exact zp_some ⟨hr5, ht⟩
theorem wr_b_Reader_closeBlock_21 {σ0 : zS} {τ0 : zT} {N : Nat} {σ : zS} {τ : zT} {v1 : Int32}  (hs : FRd σ0 σ) (ht : GRd τ0 τ) : zp (zb_Reader_closeBlock_21 N σ τ v1) (fun r => FRd σ0 r.1 ∧ GRd τ0 r.2) := by
  unfold zb_Reader_closeBlock_21
  refine zp_bind (zp_mono (wr_f_Tokens_advance  hs ht) fun r3 hr3 => ?_)
  refine zp_ite (fun _ => ?_) fun _ => ?_
  ·
    exact wr_b_Reader_closeBlock_70  hr3.1 hr3.2
  ·
    refine zp_ite (fun _ => ?_) fun _ => ?_
    ·
      exact wr_b_Reader_closeBlock_70  hr3.1 hr3.2
    ·
      refine zp_bind (zp_mono (wr_f_Tokens_advance  hr3.1 hr3.2) fun r7 hr7 => ?_)
      refine zp_bind (zp_mono (wr_f_Weaver_turnToElse  hr7.1) fun r8 hr8 => ?_)
      refine zp_bind (zp_mono (wr_f_Reader_expect  hr8 hr7.2) fun r9 hr9 => ?_)
      exact zp_some ⟨hr9.1, hr9.2⟩
theorem wr_f_Reader_closeBlock {σ0 : zS} {τ0 : zT} {N : Nat} {σ : zS} {τ : zT}  (hs : FRd σ0 σ) (ht : GRd τ0 τ) : zp (zf_Reader_closeBlock N σ τ) (fun r => FRd σ0 r.1 ∧ GRd τ0 r.2) := by
  unfold zf_Reader_closeBlock
  refine zp_bind fun r1 _ => ?_
  refine zp_ite (fun _ => ?_) fun _ => ?_
  ·
    exact wr_b_Reader_closeBlock_21  hs ht
  ·
    refine zp_bind (zp_mono (wr_f_Reader_hasRoomForStep  hs) fun r10 hr10 => ?_)
    refine zp_ite (fun _ => ?_) fun _ => ?_
    ·
      exact wr_b_Reader_closeBlock_21  hr10 ht
    ·
      exact zp_some ⟨hr10, ht⟩
theorem wr_f_Names_makeLocal {σ0 : zS} {τ0 : zT} {N : Nat} {σ : zS} {τ : zT} {x1 : Int64}  (hs : FRd σ0 σ) (ht : GRd τ0 τ) : zp (zf_Names_makeLocal N σ τ x1) (fun r => FRd σ0 r.2.1 ∧ GRd τ0 r.2.2) := by
  unfold zf_Names_makeLocal
  refine zp_bind fun r1 _ => ?_
  refine zp_ite (fun _ => ?_) fun _ => ?_
  ·
    exact zp_some ⟨hs, ht⟩
  ·
    refine zp_ite (fun _ => ?_) fun _ => ?_
    ·
      exact zp_some ⟨hs, ht⟩
    ·
      refine zp_ite (fun _ => ?_) fun _ => ?_
      ·
        refine zp_chk fun _ => ?_
        exact zp_some ⟨(FRd.up (by decide) hs), (GRd.up (by decide) ht)⟩
      ·
        exact zp_some ⟨hs, ht⟩
theorem wr_b_Reader_takeSetValue_121 {σ0 : zS} {τ0 : zT} {N : Nat} {σ : zS} {τ : zT} {s0 : Int32}  (hs : FRd σ0 σ) (ht : GRd τ0 τ) : zp (zb_Reader_takeSetValue_121 N σ τ s0) (fun r => FRd σ0 r.2.1 ∧ GRd τ0 r.2.2) := by
  unfold zb_Reader_takeSetValue_121
  refine zp_bind (zp_mono (wr_f_Tokens_advance  hs ht) fun r7 hr7 => ?_)
  exact zp_some ⟨hr7.1, hr7.2⟩
theorem wr_b_Reader_takeSetValue_102 {σ0 : zS} {τ0 : zT} {N : Nat} {σ : zS} {τ : zT} {v1 : Int32} {v2 : Int32}  (hs : FRd σ0 σ) (ht : GRd τ0 τ) : zp (zb_Reader_takeSetValue_102 N σ τ v1 v2) (fun r => FRd σ0 r.2.1 ∧ GRd τ0 r.2.2) := by
  unfold zb_Reader_takeSetValue_102
  refine zp_ite (fun _ => ?_) fun _ => ?_
  ·
    exact wr_b_Reader_takeSetValue_121  hs ht
  ·
    exact wr_b_Reader_takeSetValue_121  hs ht
theorem wr_b_Reader_takeSetValue_84 {σ0 : zS} {τ0 : zT} {N : Nat} {σ : zS} {τ : zT} {v1 : Int32} {s0 : Int32}  (hs : FRd σ0 σ) (ht : GRd τ0 τ) : zp (zb_Reader_takeSetValue_84 N σ τ v1 s0) (fun r => FRd σ0 r.2.1 ∧ GRd τ0 r.2.2) := by
  unfold zb_Reader_takeSetValue_84
  refine zp_ite (fun _ => ?_) fun _ => ?_
  ·
    exact wr_b_Reader_takeSetValue_102  hs ht
  ·
    refine zp_ite (fun _ => ?_) fun _ => ?_
    ·
      exact wr_b_Reader_takeSetValue_102  hs ht
    ·
      refine zp_bind (zp_mono (wr_f_Reader_failHere  hs) fun r9 hr9 => ?_)
      exact zp_some ⟨hr9, ht⟩
theorem wr_b_Reader_takeSetValue_62 {σ0 : zS} {τ0 : zT} {N : Nat} {σ : zS} {τ : zT} {v1 : Int32}  (hs : FRd σ0 σ) (ht : GRd τ0 τ) : zp (zb_Reader_takeSetValue_62 N σ τ v1) (fun r => FRd σ0 r.2.1 ∧ GRd τ0 r.2.2) := by
  unfold zb_Reader_takeSetValue_62
  refine zp_ite (fun _ => ?_) fun _ => ?_
  ·
    exact wr_b_Reader_takeSetValue_84  hs ht
  ·
    refine zp_bind (zp_mono (wr_f_Names_makeLocal  hs ht) fun r10 hr10 => ?_)
    exact wr_b_Reader_takeSetValue_84  hr10.1 hr10.2
theorem wr_b_Reader_takeSetValue_54 {σ0 : zS} {τ0 : zT} {N : Nat} {σ : zS} {τ : zT}  (hs : FRd σ0 σ) (ht : GRd τ0 τ) : zp (zb_Reader_takeSetValue_54 N σ τ) (fun r => FRd σ0 r.2.1 ∧ GRd τ0 r.2.2) := by
  unfold zb_Reader_takeSetValue_54
  refine zp_bind (zp_mono (wr_f_Reader_failHere  hs) fun r13 hr13 => ?_)
  exact zp_some ⟨hr13, ht⟩
theorem wr_b_Reader_takeSetValue_32 {σ0 : zS} {τ0 : zT} {N : Nat} {σ : zS} {τ : zT} {v1 : Int32}  (hs : FRd σ0 σ) (ht : GRd τ0 τ) : zp (zb_Reader_takeSetValue_32 N σ τ v1) (fun r => FRd σ0 r.2.1 ∧ GRd τ0 r.2.2) := by
  unfold zb_Reader_takeSetValue_32
  refine zp_ite (fun _ => ?_) fun _ => ?_
  ·
    exact wr_b_Reader_takeSetValue_62  hs ht
  ·
    refine zp_bind fun r11 _ => ?_
    refine zp_ite (fun _ => ?_) fun _ => ?_
    ·
      exact wr_b_Reader_takeSetValue_62  hs ht
    ·
      exact wr_b_Reader_takeSetValue_54  hs ht
theorem wr_b_Reader_takeSetValue_16 {σ0 : zS} {τ0 : zT} {N : Nat} {σ : zS} {τ : zT} {s0 : Int32}  (hs : FRd σ0 σ) (ht : GRd τ0 τ) : zp (zb_Reader_takeSetValue_16 N σ τ s0) (fun r => FRd σ0 r.2.1 ∧ GRd τ0 r.2.2) := by
  unfold zb_Reader_takeSetValue_16
  refine zp_ite (fun _ => ?_) fun _ => ?_
  ·
    exact wr_b_Reader_takeSetValue_32  hs ht
  ·
    refine zp_ite (fun _ => ?_) fun _ => ?_
    ·
      exact wr_b_Reader_takeSetValue_54  hs ht
    ·
      exact wr_b_Reader_takeSetValue_32  hs ht
theorem wr_f_Reader_takeSetValue {σ0 : zS} {τ0 : zT} {N : Nat} {σ : zS} {τ : zT}  (hs : FRd σ0 σ) (ht : GRd τ0 τ) : zp (zf_Reader_takeSetValue N σ τ) (fun r => FRd σ0 r.2.1 ∧ GRd τ0 r.2.2) := by
  unfold zf_Reader_takeSetValue
  refine zp_ite (fun _ => ?_) fun _ => ?_
  ·
    exact wr_b_Reader_takeSetValue_16  hs ht
  ·
    exact wr_b_Reader_takeSetValue_16  hs ht
theorem wr_b_Reader_readSum_61 {σ0 : zS} {τ0 : zT} {N : Nat} {σ : zS} {τ : zT} {v1 : Int32} {v2 : Int32} {v3 : Int32} {v4 : Int32}  (hs : FRd σ0 σ) (ht : GRd τ0 τ) : zp (zb_Reader_readSum_61 N σ τ v1 v2 v3 v4) (fun r => FRd σ0 r.1 ∧ GRd τ0 r.2) := by
  unfold zb_Reader_readSum_61
  refine zp_ite (fun _ => ?_) fun _ => ?_
  ·
    exact zp_some ⟨hs, ht⟩
  ·
    refine zp_bind (zp_mono (wr_f_Weaver_emit  hs) fun r7 hr7 => ?_)
    refine zp_bind (zp_mono (wr_f_Weaver_work  hr7) fun r8 hr8 => ?_)
    refine zp_bind (zp_mono (wr_f_Reader_expect  hr8 ht) fun r9 hr9 => ?_)
    exact zp_some ⟨hr9.1, hr9.2⟩
theorem wr_b_Reader_readSum_40 {σ0 : zS} {τ0 : zT} {N : Nat} {σ : zS} {τ : zT} {v1 : Int32} {v2 : Int32}  (hs : FRd σ0 σ) (ht : GRd τ0 τ) : zp (zb_Reader_readSum_40 N σ τ v1 v2) (fun r => FRd σ0 r.1 ∧ GRd τ0 r.2) := by
  unfold zb_Reader_readSum_40
  refine zp_bind (zp_mono (wr_f_Tokens_advance  hs ht) fun r4 hr4 => ?_)
  refine zp_bind (zp_mono (wr_f_Reader_takeSetValue  hr4.1 hr4.2) fun r5 hr5 => ?_)
  exact wr_b_Reader_readSum_61  hr5.1 hr5.2
theorem wr_f_Reader_readSum {σ0 : zS} {τ0 : zT} {N : Nat} {σ : zS} {τ : zT} {x1 : Int32}  (hs : FRd σ0 σ) (ht : GRd τ0 τ) : zp (zf_Reader_readSum N σ τ x1) (fun r => FRd σ0 r.1 ∧ GRd τ0 r.2) := by
  unfold zf_Reader_readSum
  refine zp_bind (zp_mono (wr_f_Reader_takeSetValue  hs ht) fun r1 hr1 => ?_)
  refine zp_ite (fun _ => ?_) fun _ => ?_
  ·
    refine zp_ite (fun _ => ?_) fun _ => ?_
    ·
      exact wr_b_Reader_readSum_40  hr1.1 hr1.2
    ·
      refine zp_ite (fun _ => ?_) fun _ => ?_
      ·
        exact wr_b_Reader_readSum_61  hr1.1 hr1.2
      ·
        exact wr_b_Reader_readSum_40  hr1.1 hr1.2
  ·
    exact zp_some ⟨hr1.1, hr1.2⟩
theorem wr_f_Reader_readRead {σ0 : zS} {τ0 : zT} {N : Nat} {σ : zS} {τ : zT} {x1 : Int32} {x2 : Int32}  (hs : FRd σ0 σ) (ht : GRd τ0 τ) : zp (zf_Reader_readRead N σ τ x1 x2) (fun r => FRd σ0 r.1 ∧ GRd τ0 r.2) := by
  unfold zf_Reader_readRead
  refine zp_bind (zp_mono (wr_f_Tokens_advance  hs ht) fun r1 hr1 => ?_)
  refine zp_bind (zp_mono (wr_f_Weaver_emit  hr1.1) fun r2 hr2 => ?_)
  refine zp_bind (zp_mono (wr_f_Weaver_work  hr2) fun r3 hr3 => ?_)
  refine zp_bind (zp_mono (wr_f_Reader_expect  hr3 hr1.2) fun r4 hr4 => ?_)
  exact zp_some ⟨hr4.1, hr4.2⟩
theorem wr_f_Reader_readWrite {σ0 : zS} {τ0 : zT} {N : Nat} {σ : zS} {τ : zT} {x1 : Int32}  (hs : FRd σ0 σ) (ht : GRd τ0 τ) : zp (zf_Reader_readWrite N σ τ x1) (fun r => FRd σ0 r.1 ∧ GRd τ0 r.2) := by
  unfold zf_Reader_readWrite
  refine zp_bind (zp_mono (wr_f_Reader_takeSetValue  hs ht) fun r1 hr1 => ?_)
  refine zp_ite (fun _ => ?_) fun _ => ?_
  ·
    exact zp_some ⟨hr1.1, hr1.2⟩
  ·
    refine zp_bind (zp_mono (wr_f_Weaver_emit  hr1.1) fun r3 hr3 => ?_)
    refine zp_bind (zp_mono (wr_f_Weaver_work  hr3) fun r4 hr4 => ?_)
    refine zp_bind (zp_mono (wr_f_Reader_expect  hr4 hr1.2) fun r5 hr5 => ?_)
    exact zp_some ⟨hr5.1, hr5.2⟩
theorem wr_b_Reader_readSetting_148 {σ0 : zS} {τ0 : zT} {N : Nat} {σ : zS} {τ : zT} {v2 : Int32} {v3 : Int32} {s0 : Int32}  (hs : FRd σ0 σ) (ht : GRd τ0 τ) : zp (zb_Reader_readSetting_148 N σ τ v2 v3 s0) (fun r => FRd σ0 r.1 ∧ GRd τ0 r.2) := by
  unfold zb_Reader_readSetting_148
  refine zp_ite (fun _ => ?_) fun _ => ?_
  ·
    refine zp_ite (fun _ => ?_) fun _ => ?_
    ·
      refine zp_bind (zp_mono (wr_f_Reader_readSum  hs ht) fun r18 hr18 => ?_)
      exact zp_some ⟨hr18.1, hr18.2⟩
    ·
      refine zp_bind (zp_mono (wr_f_Reader_readRead  hs ht) fun r19 hr19 => ?_)
      exact zp_some ⟨hr19.1, hr19.2⟩
  ·
    refine zp_bind (zp_mono (wr_f_Reader_readWrite  hs ht) fun r20 hr20 => ?_)
    exact zp_some ⟨hr20.1, hr20.2⟩
theorem wr_b_Reader_readSetting_94 {σ0 : zS} {τ0 : zT} {N : Nat} {σ : zS} {τ : zT}  (hs : FRd σ0 σ) (ht : GRd τ0 τ) : zp (zb_Reader_readSetting_94 N σ τ) (fun r => FRd σ0 r.1 ∧ GRd τ0 r.2) := by
  unfold zb_Reader_readSetting_94
  refine zp_bind (zp_mono (wr_f_Reader_failHere  hs) fun r9 hr9 => ?_)
  exact zp_some ⟨hr9, ht⟩
theorem wr_b_Reader_readSetting_78 {σ0 : zS} {τ0 : zT} {N : Nat} {σ : zS} {τ : zT} {v2 : Int32} {s0 : Int32}  (hs : FRd σ0 σ) (ht : GRd τ0 τ) : zp (zb_Reader_readSetting_78 N σ τ v2 s0) (fun r => FRd σ0 r.1 ∧ GRd τ0 r.2) := by
  unfold zb_Reader_readSetting_78
  refine zp_ite (fun _ => ?_) fun _ => ?_
  ·
    exact wr_b_Reader_readSetting_94  hs ht
  ·
    refine zp_bind fun r10 _ => ?_
    refine zp_ite (fun _ => ?_) fun _ => ?_
    ·
      refine zp_bind (zp_mono (wr_f_Tokens_advance  hs ht) fun r12 hr12 => ?_)
      refine zp_bind (zp_mono (wr_f_Reader_expect  hr12.1 hr12.2) fun r13 hr13 => ?_)
      refine zp_ite (fun _ => ?_) fun _ => ?_
      ·
        refine zp_ite (fun _ => ?_) fun _ => ?_
        ·
          exact wr_b_Reader_readSetting_148  hr13.1 hr13.2
        ·
          refine zp_bind fun r21 _ => ?_
          exact wr_b_Reader_readSetting_148  hr13.1 hr13.2
      ·
        exact zp_some ⟨hr13.1, hr13.2⟩
    ·
      exact wr_b_Reader_readSetting_94  hs ht
theorem wr_b_Reader_readSetting_41 {σ0 : zS} {τ0 : zT} {N : Nat} {σ : zS} {τ : zT} {v1 : Int32} {s0 : Int32}  (hs : FRd σ0 σ) (ht : GRd τ0 τ) : zp (zb_Reader_readSetting_41 N σ τ v1 s0) (fun r => FRd σ0 r.1 ∧ GRd τ0 r.2) := by
  unfold zb_Reader_readSetting_41
  refine zp_ite (fun _ => ?_) fun _ => ?_
  ·
    refine zp_bind (zp_mono (wr_f_Names_makeLocal  hs ht) fun r7 hr7 => ?_)
    exact wr_b_Reader_readSetting_78  hr7.1 hr7.2
  ·
    refine zp_bind fun r22 _ => ?_
    exact wr_b_Reader_readSetting_78  hs ht
theorem wr_b_Reader_readSetting_25 {σ0 : zS} {τ0 : zT} {N : Nat} {σ : zS} {τ : zT}  (hs : FRd σ0 σ) (ht : GRd τ0 τ) : zp (zb_Reader_readSetting_25 N σ τ) (fun r => FRd σ0 r.1 ∧ GRd τ0 r.2) := by
  unfold zb_Reader_readSetting_25
  refine zp_bind (zp_mono (wr_f_Reader_failHere  hs) fun r3 hr3 => ?_)
  exact zp_some ⟨hr3, ht⟩
theorem wr_f_Reader_readSetting {σ0 : zS} {τ0 : zT} {N : Nat} {σ : zS} {τ : zT}  (hs : FRd σ0 σ) (ht : GRd τ0 τ) : zp (zf_Reader_readSetting N σ τ) (fun r => FRd σ0 r.1 ∧ GRd τ0 r.2) := by
  unfold zf_Reader_readSetting
  refine zp_bind fun r1 _ => ?_
  refine zp_ite (fun _ => ?_) fun _ => ?_
  ·
    exact wr_b_Reader_readSetting_25  hs ht
  ·
    refine zp_ite (fun _ => ?_) fun _ => ?_
    ·
      refine zp_ite (fun _ => ?_) fun _ => ?_
      ·
        exact wr_b_Reader_readSetting_41  hs ht
      ·
        exact wr_b_Reader_readSetting_41  hs ht
    ·
      exact wr_b_Reader_readSetting_25  hs ht
theorem wr_f_Reader_readStatement {σ0 : zS} {τ0 : zT} {N : Nat} {σ : zS} {τ : zT}  (hs : FRd σ0 σ) (ht : GRd τ0 τ) : zp (zf_Reader_readStatement N σ τ) (fun r => FRd σ0 r.1 ∧ GRd τ0 r.2) := by
  unfold zf_Reader_readStatement
  refine zp_ite (fun _ => ?_) fun _ => ?_
  ·
    refine zp_bind (zp_mono (wr_f_Reader_readSetting  hs ht) fun r25 hr25 => ?_)
    exact zp_some ⟨hr25.1, hr25.2⟩
  ·
    refine zp_ite (fun _ => ?_) fun _ => ?_
    ·
      refine zp_bind (zp_mono (wr_f_Reader_closeBlock  hs ht) fun r24 hr24 => ?_)
      exact zp_some ⟨hr24.1, hr24.2⟩
    ·
      refine zp_ite (fun _ => ?_) fun _ => ?_
      ·
        refine zp_bind (zp_mono (wr_f_Reader_readLock  hs ht) fun r23 hr23 => ?_)
        exact zp_some ⟨hr23.1, hr23.2⟩
      ·
        refine zp_ite (fun _ => ?_) fun _ => ?_
        ·
          refine zp_bind (zp_mono (wr_f_Reader_readBranch  hs ht) fun r22 hr22 => ?_)
          exact zp_some ⟨hr22.1, hr22.2⟩
        ·
          refine zp_ite (fun _ => ?_) fun _ => ?_
          ·
            refine zp_bind (zp_mono (wr_f_Reader_readBranch  hs ht) fun r21 hr21 => ?_)
            exact zp_some ⟨hr21.1, hr21.2⟩
          ·
            refine zp_ite (fun _ => ?_) fun _ => ?_
            ·
              refine zp_bind (zp_mono (wr_f_Reader_readSignal  hs ht) fun r20 hr20 => ?_)
              exact zp_some ⟨hr20.1, hr20.2⟩
            ·
              refine zp_ite (fun _ => ?_) fun _ => ?_
              ·
                refine zp_bind (zp_mono (wr_f_Reader_readSignal  hs ht) fun r19 hr19 => ?_)
                exact zp_some ⟨hr19.1, hr19.2⟩
              ·
                refine zp_ite (fun _ => ?_) fun _ => ?_
                ·
                  refine zp_bind (zp_mono (wr_f_Reader_readThreadStep  hs ht) fun r18 hr18 => ?_)
                  exact zp_some ⟨hr18.1, hr18.2⟩
                ·
                  refine zp_ite (fun _ => ?_) fun _ => ?_
                  ·
                    refine zp_bind (zp_mono (wr_f_Reader_readThreadStep  hs ht) fun r17 hr17 => ?_)
                    exact zp_some ⟨hr17.1, hr17.2⟩
                  ·
                    refine zp_ite (fun _ => ?_) fun _ => ?_
                    ·
                      refine zp_bind (zp_mono (wr_f_Reader_readCheck  hs ht) fun r16 hr16 => ?_)
                      exact zp_some ⟨hr16.1, hr16.2⟩
                    ·
                      refine zp_ite (fun _ => ?_) fun _ => ?_
                      ·
                        refine zp_bind (zp_mono (wr_f_Reader_readStop  hs ht) fun r15 hr15 => ?_)
                        exact zp_some ⟨hr15.1, hr15.2⟩
                      ·
                        refine zp_ite (fun _ => ?_) fun _ => ?_
                        ·
                          refine zp_bind (zp_mono (wr_f_Reader_readSpan  hs ht) fun r14 hr14 => ?_)
                          exact zp_some ⟨hr14.1, hr14.2⟩
                        ·
                          refine zp_bind (zp_mono (wr_f_Reader_failHere  hs) fun r13 hr13 => ?_)
                          exact zp_some ⟨hr13, ht⟩
theorem wr_b_Reader_readText_95 {σ0 : zS} {τ0 : zT} {N : Nat}  : ∀ (n : Nat) (σ : zS) (τ : zT) (v2 : Int32), FRd σ0 σ → GRd τ0 τ → zp (zb_Reader_readText_95 N n σ τ v2) (fun r => FRd σ0 r.1 ∧ GRd τ0 r.2) := by
  intro n
  induction n with
  | zero => intro _ _ _ _ _; exact zp_none
  | succ n ih =>
    intro σ τ v2 hs ht
    rw [zb_Reader_readText_95]
    refine zp_ite (fun _ => ?_) fun _ => ?_
    ·
      exact zp_some ⟨hs, ht⟩
    ·
      refine zp_ite (fun _ => ?_) fun _ => ?_
      ·
        exact zp_some ⟨hs, ht⟩
      ·
        refine zp_bind (zp_mono (wr_f_Reader_findThread  hs) fun r8 hr8 => ?_)
        exact ih _ _ _ hr8 ht
theorem wr_b_Reader_readText_93 {σ0 : zS} {τ0 : zT} {N : Nat} {σ : zS} {τ : zT}  (hs : FRd σ0 σ) (ht : GRd τ0 τ) : zp (zb_Reader_readText_93 N σ τ) (fun r => FRd σ0 r.1 ∧ GRd τ0 r.2) := by
  unfold zb_Reader_readText_93
  exact wr_b_Reader_readText_95  _ _ _ _ hs ht
theorem wr_b_Reader_readText_87 {σ0 : zS} {τ0 : zT} {k42 : zS → zT → Int32 → Option (zS × zT)} {N : Nat} {σ : zS} {τ : zT} {v2 : Int32} (hk42 : ∀ (y0 : zS) (y1 : zT) (y2 : Int32), FRd σ0 y0 → GRd τ0 y1 → zp (k42 y0 y1 y2) (fun r => FRd σ0 r.1 ∧ GRd τ0 r.2)) (hs : FRd σ0 σ) (ht : GRd τ0 τ) : zp (zb_Reader_readText_87 k42 N σ τ v2) (fun r => FRd σ0 r.1 ∧ GRd τ0 r.2) := by
  unfold zb_Reader_readText_87
  exact hk42 _ _ _ hs ht
theorem wr_b_Reader_readText_42 {σ0 : zS} {τ0 : zT} {N : Nat}  : ∀ (n : Nat) (σ : zS) (τ : zT) (v2 : Int32), FRd σ0 σ → GRd τ0 τ → zp (zb_Reader_readText_42 N n σ τ v2) (fun r => FRd σ0 r.1 ∧ GRd τ0 r.2) := by
  intro n
  induction n with
  | zero => intro _ _ _ _ _; exact zp_none
  | succ n ih =>
    intro σ τ v2 hs ht
    rw [zb_Reader_readText_42]
    refine zp_ite (fun _ => ?_) fun _ => ?_
    ·
      exact wr_b_Reader_readText_93  hs ht
    ·
      refine zp_ite (fun _ => ?_) fun _ => ?_
      ·
        exact wr_b_Reader_readText_93  hs ht
      ·
        refine zp_ite (fun _ => ?_) fun _ => ?_
        ·
          refine zp_ite (fun _ => ?_) fun _ => ?_
          ·
            exact wr_b_Reader_readText_93  hs ht
          ·
            refine zp_bind (zp_mono (wr_f_Reader_readTelling  hs ht) fun r12 hr12 => ?_)
            exact wr_b_Reader_readText_87 (ih) hr12.1 hr12.2
        ·
          refine zp_bind (zp_mono (wr_f_Reader_readStatement  hs ht) fun r13 hr13 => ?_)
          exact wr_b_Reader_readText_87 (ih) hr13.1 hr13.2
theorem wr_f_Reader_readText {σ0 : zS} {τ0 : zT} {N : Nat} {σ : zS} {τ : zT} {x1 : Int32}  (hs : FRd σ0 σ) (ht : GRd τ0 τ) : zp (zf_Reader_readText N σ τ x1) (fun r => FRd σ0 r.1 ∧ GRd τ0 r.2) := by
  unfold zf_Reader_readText
  refine zp_bind (zp_mono (wr_f_Program_clear  (FRd.up (by decide) (FRd.up (by decide) hs))) fun r1 hr1 => ?_)
  refine zp_bind (zp_mono (wr_f_Names_clear  hr1) fun r2 hr2 => ?_)
  refine zp_bind (zp_mono (wr_f_Weaver_beginThread  hr2) fun r3 hr3 => ?_)
  refine zp_bind (zp_mono (wr_f_Tokens_scan  hr3 ht) fun r4 hr4 => ?_)
  exact wr_b_Reader_readText_42  _ _ _ _ hr4.1 hr4.2
theorem wr_f_Judge_forget {σ0 : zS} {σ : zS}  (hs : FRd σ0 σ) : zp (zf_Judge_forget σ) (fun r => FRd σ0 r) := by
  unfold zf_Judge_forget
  exact zp_some (FRd.up (by decide) hs)
theorem wr_b_Arrays_fill_c2_5 {σ0 : zS} {N : Nat}  : ∀ (n : Nat) (σ : zS) (v1 : Int32) (v2 : Int32) (v3 : Int32), FRd σ0 σ → zp (zb_Arrays_fill_c2_5 N n σ v1 v2 v3) (fun r => FRd σ0 r) := by
  intro n
  induction n with
  | zero => intro _ _ _ _ _; exact zp_none
  | succ n ih =>
    intro σ v1 v2 v3 hs
    rw [zb_Arrays_fill_c2_5]
    refine zp_ite (fun _ => ?_) fun _ => ?_
    ·
      exact zp_some hs
    ·
      refine zp_chk fun _ => ?_
      exact ih _ _ _ _ (FRd.up (by decide) hs)
theorem wr_f_Arrays_fill_c2 {σ0 : zS} {N : Nat} {σ : zS} {x2 : Int32}  (hs : FRd σ0 σ) : zp (zf_Arrays_fill_c2 N σ x2) (fun r => FRd σ0 r) := by
  unfold zf_Arrays_fill_c2
  exact wr_b_Arrays_fill_c2_5  _ _ _ _ _ hs
theorem wr_b_X_read_40 {σ0 : zS} {τ0 : zT} {N : Nat} {σ : zS} {τ : zT} {s0 : Int32}  (hs : FRd σ0 σ) (ht : GRd τ0 τ) : zp (zb_X_read_40 N σ τ s0) (fun r => FRd σ0 r.2.1 ∧ GRd τ0 r.2.2) := by
  unfold zb_X_read_40
  refine zp_chk fun _ => ?_
  refine zp_bind (zp_mono (wr_f_Judge_forget  (FRd.up (by decide) (FRd.up (by decide) (FRd.up (by decide) (FRd.up (by decide) hs))))) fun r4 hr4 => ?_)
  refine zp_bind (zp_mono (wr_f_Arrays_fill_c2  hr4) fun r5 hr5 => ?_)
  refine zp_ite (fun _ => ?_) fun _ => ?_
  ·
    exact zp_some ⟨hr5, ht⟩
  ·
    exact zp_some ⟨hr5, ht⟩
theorem wr_f_X_read {σ0 : zS} {τ0 : zT} {N : Nat} {σ : zS} {τ : zT}  (hs : FRd σ0 σ) (ht : GRd τ0 τ) : zp (zf_X_read N σ τ) (fun r => FRd σ0 r.2.1 ∧ GRd τ0 r.2.2) := by
  unfold zf_X_read
  refine zp_bind (zp_mono (wr_f_Reader_readText  hs ht) fun r1 hr1 => ?_)
  refine zp_ite (fun _ => ?_) fun _ => ?_
  ·
    exact wr_b_X_read_40  (FRd.up (by decide) (FRd.up (by decide) hr1.1)) hr1.2
  ·
    exact wr_b_X_read_40  (FRd.up (by decide) (FRd.up (by decide) hr1.1)) hr1.2
