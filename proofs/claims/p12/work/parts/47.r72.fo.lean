-- both answer alike
set_option maxRecDepth 2000
def FOG (σ0 σ : zS) : Prop := ∀ q, (q < 36 ∨ (40 ≤ q ∧ q ≤ 57) ∨ 63 < q) → σ q = σ0 q
theorem FOG.up {σ0 σ : zS} {p i : Nat} {x : Int32} (hp : (36 ≤ p ∧ p ≤ 39) ∨ (58 ≤ p ∧ p ≤ 63)) (h : FOG σ0 σ) : FOG σ0 (zx_up σ p i x) := fun q hq => by rw [zu_other (by omega)]; exact h q hq
theorem FOG.cp {σ0 σ : zS} {p q : Nat} {a b c : Int32} (hq : (36 ≤ q ∧ q ≤ 39) ∨ (58 ≤ q ∧ q ≤ 63)) (h : FOG σ0 σ) : FOG σ0 (zJ_copy σ p q a b c) := fun u hu => by rw [zJ_copy_ne (by omega)]; exact h u hu
theorem xo_b_Arrays_fill_c4_5 {σ0 : zS} {N : Nat}  : ∀ (n : Nat) (σ : zS) (v1 : Int32) (v2 : Int32) (v3 : Int32), FOG σ0 σ → zp (zb_Arrays_fill_c4_5 N n σ v1 v2 v3) (fun r => FOG σ0 r) := by
  intro n
  induction n with
  | zero => intro _ _ _ _ _; exact zp_none
  | succ n ih =>
    intro σ v1 v2 v3 hs
    rw [zb_Arrays_fill_c4_5]
    refine zp_ite (fun _ => ?_) fun _ => ?_
    ·
      exact zp_some hs
    ·
      refine zp_chk fun _ => ?_
      exact ih _ _ _ _ (FOG.up (by decide) hs)
theorem xo_f_Arrays_fill_c4 {σ0 : zS} {N : Nat} {σ : zS} {x2 : Int32}  (hs : FOG σ0 σ) : zp (zf_Arrays_fill_c4 N σ x2) (fun r => FOG σ0 r) := by
  unfold zf_Arrays_fill_c4
  exact xo_b_Arrays_fill_c4_5  _ _ _ _ _ hs
theorem xo_b_Machine_load_130 {σ0 : zS} {k34 : zS → Int32 → Option (zS)} {N : Nat} {σ : zS} {v3 : Int32} (hk34 : ∀ (y0 : zS) (y1 : Int32), FOG σ0 y0 → zp (k34 y0 y1) (fun r => FOG σ0 r)) (hs : FOG σ0 σ) : zp (zb_Machine_load_130 k34 N σ v3) (fun r => FOG σ0 r) := by
  unfold zb_Machine_load_130
  exact hk34 _ _ hs
theorem xo_b_Machine_load_124 {σ0 : zS} {k95 : zS → Int32 → Int32 → Int32 → Option (zS)} {N : Nat} {σ : zS} {v3 : Int32} {v5 : Int32} {v6 : Int32} (hk95 : ∀ (y0 : zS) (y1 : Int32) (y2 : Int32) (y3 : Int32), FOG σ0 y0 → zp (k95 y0 y1 y2 y3) (fun r => FOG σ0 r)) (hs : FOG σ0 σ) : zp (zb_Machine_load_124 k95 N σ v3 v5 v6) (fun r => FOG σ0 r) := by
  unfold zb_Machine_load_124
  exact hk95 _ _ _ _ hs
theorem xo_b_Machine_load_95 {σ0 : zS} {k34 : zS → Int32 → Option (zS)} {N : Nat} (hk34 : ∀ (y0 : zS) (y1 : Int32), FOG σ0 y0 → zp (k34 y0 y1) (fun r => FOG σ0 r)) : ∀ (n : Nat) (σ : zS) (v3 : Int32) (v5 : Int32) (v6 : Int32), FOG σ0 σ → zp (zb_Machine_load_95 k34 N n σ v3 v5 v6) (fun r => FOG σ0 r) := by
  intro n
  induction n with
  | zero => intro _ _ _ _ _; exact zp_none
  | succ n ih =>
    intro σ v3 v5 v6 hs
    rw [zb_Machine_load_95]
    refine zp_ite (fun _ => ?_) fun _ => ?_
    ·
      exact xo_b_Machine_load_130 (hk34) hs
    ·
      refine zp_ite (fun _ => ?_) fun _ => ?_
      ·
        exact xo_b_Machine_load_130 (hk34) hs
      ·
        refine zp_ite (fun _ => ?_) fun _ => ?_
        ·
          exact xo_b_Machine_load_124 (ih) hs
        ·
          refine zp_chk fun _ => ?_
          exact xo_b_Machine_load_124 (ih) (FOG.up (by decide) hs)
theorem xo_b_Machine_load_34 {σ0 : zS} {N : Nat}  : ∀ (n : Nat) (σ : zS) (v3 : Int32), FOG σ0 σ → zp (zb_Machine_load_34 N n σ v3) (fun r => FOG σ0 r) := by
  intro n
  induction n with
  | zero => intro _ _ _; exact zp_none
  | succ n ih =>
    intro σ v3 hs
    rw [zb_Machine_load_34]
    refine zp_ite (fun _ => ?_) fun _ => ?_
    ·
      exact zp_some hs
    ·
      refine zp_chk fun _ => ?_
      refine zp_chk fun _ => ?_
      refine zp_bind fun r8 _ => ?_
      refine zp_chk fun _ => ?_
      refine zp_bind fun r10 _ => ?_
      exact xo_b_Machine_load_95 (ih) _ _ _ _ _ (FOG.up (by decide) (FOG.up (by decide) hs))
theorem xo_f_Machine_load {σ0 : zS} {N : Nat} {σ : zS} {x2 : Int32}  (hs : FOG σ0 σ) : zp (zf_Machine_load N σ x2) (fun r => FOG σ0 r) := by
  unfold zf_Machine_load
  refine zp_ite (fun _ => ?_) fun _ => ?_
  ·
    exact zp_some hs
  ·
    refine zp_ite (fun _ => ?_) fun _ => ?_
    ·
      refine zp_chk fun _ => ?_
      refine zp_bind (zp_mono (xo_f_Arrays_fill_c4  (FOG.cp (by decide) hs)) fun r4 hr4 => ?_)
      exact xo_b_Machine_load_34  _ _ _ hr4
    ·
      exact zp_some hs
theorem xo_f_Space_load {σ0 : zS} {N : Nat} {σ : zS} {x1 : Int32}  (hs : FOG σ0 σ) : zp (zf_Space_load N σ x1) (fun r => FOG σ0 r) := by
  unfold zf_Space_load
  refine zp_bind fun r1 _ => ?_
  refine zp_ite (fun _ => ?_) fun _ => ?_
  ·
    exact zp_some hs
  ·
    refine zp_bind (zp_mono (xo_f_Machine_load  hs) fun r3 hr3 => ?_)
    exact zp_some hr3
theorem xo_f_Numbers_clear_c5 {σ0 : zS} {σ : zS}  (hs : FOG σ0 σ) : zp (zf_Numbers_clear_c5 σ) (fun r => FOG σ0 r) := by
  unfold zf_Numbers_clear_c5
  exact zp_some (FOG.up (by decide) hs)
theorem xo_f_Numbers_clear_c6 {σ0 : zS} {σ : zS}  (hs : FOG σ0 σ) : zp (zf_Numbers_clear_c6 σ) (fun r => FOG σ0 r) := by
  unfold zf_Numbers_clear_c6
  exact zp_some (FOG.up (by decide) hs)
theorem xo_b_Arrays_fill_c6_5 {σ0 : zS} {N : Nat}  : ∀ (n : Nat) (σ : zS) (v1 : Int32) (v2 : Int32) (v3 : Int32), FOG σ0 σ → zp (zb_Arrays_fill_c6_5 N n σ v1 v2 v3) (fun r => FOG σ0 r) := by
  intro n
  induction n with
  | zero => intro _ _ _ _ _; exact zp_none
  | succ n ih =>
    intro σ v1 v2 v3 hs
    rw [zb_Arrays_fill_c6_5]
    refine zp_ite (fun _ => ?_) fun _ => ?_
    ·
      exact zp_some hs
    ·
      refine zp_chk fun _ => ?_
      exact ih _ _ _ _ (FOG.up (by decide) hs)
theorem xo_f_Arrays_fill_c6 {σ0 : zS} {N : Nat} {σ : zS} {x2 : Int32}  (hs : FOG σ0 σ) : zp (zf_Arrays_fill_c6 N σ x2) (fun r => FOG σ0 r) := by
  unfold zf_Arrays_fill_c6
  exact xo_b_Arrays_fill_c6_5  _ _ _ _ _ hs
theorem xo_f_Numbers_add_c2 {σ0 : zS} {σ : zS} {x1 : Int32}  (hs : FOG σ0 σ) : zp (zf_Numbers_add_c2 σ x1) (fun r => FOG σ0 r) := by
  unfold zf_Numbers_add_c2
  refine zp_ite (fun _ => ?_) fun _ => ?_
  ·
    exact zp_some hs
  ·
    refine zp_ite (fun _ => ?_) fun _ => ?_
    ·
      exact zp_some hs
    ·
      refine zp_chk fun _ => ?_
      exact zp_some (FOG.up (by decide) (FOG.up (by decide) hs))
theorem xo_f_Numbers_add_c3 {σ0 : zS} {σ : zS} {x1 : Int32}  (hs : FOG σ0 σ) : zp (zf_Numbers_add_c3 σ x1) (fun r => FOG σ0 r) := by
  unfold zf_Numbers_add_c3
  refine zp_ite (fun _ => ?_) fun _ => ?_
  ·
    exact zp_some hs
  ·
    refine zp_ite (fun _ => ?_) fun _ => ?_
    ·
      exact zp_some hs
    ·
      refine zp_chk fun _ => ?_
      exact zp_some (FOG.up (by decide) (FOG.up (by decide) hs))
theorem xo_f_Outcomes_note {σ0 : zS} {N : Nat} {σ : zS} {x1 : Int32} {x2 : Int32}  (hs : FOG σ0 σ) : zp (zf_Outcomes_note N σ x1 x2) (fun r => FOG σ0 r) := by
  unfold zf_Outcomes_note
  refine zp_bind fun r1 _ => ?_
  refine zp_chk fun _ => ?_
  refine zp_ite (fun _ => ?_) fun _ => ?_
  ·
    exact zp_some hs
  ·
    refine zp_bind (zp_mono (xo_f_Numbers_add_c2  hs) fun r4 hr4 => ?_)
    refine zp_bind (zp_mono (xo_f_Numbers_add_c3  hr4) fun r5 hr5 => ?_)
    refine zp_chk fun _ => ?_
    exact zp_some (FOG.up (by decide) hr5)
theorem xo_b_Outcomes_gather_57 {σ0 : zS} {k24 : zS → Int32 → Option (zS)} {N : Nat} {σ : zS} {v2 : Int32} (hk24 : ∀ (y0 : zS) (y1 : Int32), FOG σ0 y0 → zp (k24 y0 y1) (fun r => FOG σ0 r)) (hs : FOG σ0 σ) : zp (zb_Outcomes_gather_57 k24 N σ v2) (fun r => FOG σ0 r) := by
  unfold zb_Outcomes_gather_57
  exact hk24 _ _ hs
theorem xo_b_Outcomes_gather_24 {σ0 : zS} {N : Nat}  : ∀ (n : Nat) (σ : zS) (v2 : Int32), FOG σ0 σ → zp (zb_Outcomes_gather_24 N n σ v2) (fun r => FOG σ0 r) := by
  intro n
  induction n with
  | zero => intro _ _ _; exact zp_none
  | succ n ih =>
    intro σ v2 hs
    rw [zb_Outcomes_gather_24]
    refine zp_ite (fun _ => ?_) fun _ => ?_
    ·
      exact zp_some hs
    ·
      refine zp_bind fun r5 _ => ?_
      refine zp_ite (fun _ => ?_) fun _ => ?_
      ·
        exact xo_b_Outcomes_gather_57 (ih) hs
      ·
        refine zp_bind (zp_mono (xo_f_Space_load  hs) fun r7 hr7 => ?_)
        refine zp_bind fun r8 _ => ?_
        refine zp_bind (zp_mono (xo_f_Outcomes_note  hr7) fun r9 hr9 => ?_)
        exact xo_b_Outcomes_gather_57 (ih) hr9
theorem xo_f_Outcomes_gather {σ0 : zS} {N : Nat} {σ : zS}  (hs : FOG σ0 σ) : zp (zf_Outcomes_gather N σ) (fun r => FOG σ0 r) := by
  unfold zf_Outcomes_gather
  refine zp_bind (zp_mono (xo_f_Numbers_clear_c5  hs) fun r1 hr1 => ?_)
  refine zp_bind (zp_mono (xo_f_Numbers_clear_c6  hr1) fun r2 hr2 => ?_)
  refine zp_bind (zp_mono (xo_f_Arrays_fill_c6  hr2) fun r3 hr3 => ?_)
  exact xo_b_Outcomes_gather_24  _ _ _ hr3
