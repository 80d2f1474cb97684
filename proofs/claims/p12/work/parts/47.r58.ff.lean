-- both answer alike
set_option maxRecDepth 2000
def F42 (σ0 σ : zS) : Prop := ∀ q, 41 ≤ q → q ≤ 45 → σ q = σ0 q
theorem F42.up {σ0 σ : zS} {p i : Nat} {x : Int32} (hp : p < 41 ∨ 45 < p) (h : F42 σ0 σ) : F42 σ0 (zx_up σ p i x) := fun q a b => by rw [zu_other (by omega)]; exact h q a b
theorem F42.cp {σ0 σ : zS} {p q : Nat} {a b c : Int32} (hq : q < 41 ∨ 45 < q) (h : F42 σ0 σ) : F42 σ0 (zJ_copy σ p q a b c) := fun u x y => by rw [zJ_copy_ne (by omega)]; exact h u x y
theorem xi_b_Arrays_fill_c4_5 {σ0 : zS} {N : Nat}  : ∀ (n : Nat) (σ : zS) (v1 : Int32) (v2 : Int32) (v3 : Int32), F42 σ0 σ → zp (zb_Arrays_fill_c4_5 N n σ v1 v2 v3) (fun r => F42 σ0 r) := by
  intro n
  induction n with
  | zero => intro _ _ _ _ _; exact zp_none
  | succ n ih =>
    intro σ v1 v2 v3 hs
    rw [zb_Arrays_fill_c4_5]
    refine zp_ite (fun _ => ?_) fun _ => ?_
    ·
      exact zp_some hs
    ·
      refine zp_chk fun _ => ?_
      exact ih _ _ _ _ (F42.up (by decide) hs)
theorem xi_f_Arrays_fill_c4 {σ0 : zS} {N : Nat} {σ : zS} {x2 : Int32}  (hs : F42 σ0 σ) : zp (zf_Arrays_fill_c4 N σ x2) (fun r => F42 σ0 r) := by
  unfold zf_Arrays_fill_c4
  exact xi_b_Arrays_fill_c4_5  _ _ _ _ _ hs
theorem xi_b_Machine_load_130 {σ0 : zS} {k34 : zS → Int32 → Option (zS)} {N : Nat} {σ : zS} {v3 : Int32} (hk34 : ∀ (y0 : zS) (y1 : Int32), F42 σ0 y0 → zp (k34 y0 y1) (fun r => F42 σ0 r)) (hs : F42 σ0 σ) : zp (zb_Machine_load_130 k34 N σ v3) (fun r => F42 σ0 r) := by
  unfold zb_Machine_load_130
  exact hk34 _ _ hs
theorem xi_b_Machine_load_124 {σ0 : zS} {k95 : zS → Int32 → Int32 → Int32 → Option (zS)} {N : Nat} {σ : zS} {v3 : Int32} {v5 : Int32} {v6 : Int32} (hk95 : ∀ (y0 : zS) (y1 : Int32) (y2 : Int32) (y3 : Int32), F42 σ0 y0 → zp (k95 y0 y1 y2 y3) (fun r => F42 σ0 r)) (hs : F42 σ0 σ) : zp (zb_Machine_load_124 k95 N σ v3 v5 v6) (fun r => F42 σ0 r) := by
  unfold zb_Machine_load_124
  exact hk95 _ _ _ _ hs
theorem xi_b_Machine_load_95 {σ0 : zS} {k34 : zS → Int32 → Option (zS)} {N : Nat} (hk34 : ∀ (y0 : zS) (y1 : Int32), F42 σ0 y0 → zp (k34 y0 y1) (fun r => F42 σ0 r)) : ∀ (n : Nat) (σ : zS) (v3 : Int32) (v5 : Int32) (v6 : Int32), F42 σ0 σ → zp (zb_Machine_load_95 k34 N n σ v3 v5 v6) (fun r => F42 σ0 r) := by
  intro n
  induction n with
  | zero => intro _ _ _ _ _; exact zp_none
  | succ n ih =>
    intro σ v3 v5 v6 hs
    rw [zb_Machine_load_95]
    refine zp_ite (fun _ => ?_) fun _ => ?_
    ·
      exact xi_b_Machine_load_130 (hk34) hs
    ·
      refine zp_ite (fun _ => ?_) fun _ => ?_
      ·
        exact xi_b_Machine_load_130 (hk34) hs
      ·
        refine zp_ite (fun _ => ?_) fun _ => ?_
        ·
          exact xi_b_Machine_load_124 (ih) hs
        ·
          refine zp_chk fun _ => ?_
          exact xi_b_Machine_load_124 (ih) (F42.up (by decide) hs)
theorem xi_b_Machine_load_34 {σ0 : zS} {N : Nat}  : ∀ (n : Nat) (σ : zS) (v3 : Int32), F42 σ0 σ → zp (zb_Machine_load_34 N n σ v3) (fun r => F42 σ0 r) := by
  intro n
  induction n with
  | zero => intro _ _ _; exact zp_none
  | succ n ih =>
    intro σ v3 hs
    rw [zb_Machine_load_34]
    refine zp_ite (fun _ => ?_) fun _ => ?_
    ·
      exact zp_some hs
    ·
      refine zp_chk fun _ => ?_
      refine zp_chk fun _ => ?_
      refine zp_bind fun r8 _ => ?_
      refine zp_chk fun _ => ?_
      refine zp_bind fun r10 _ => ?_
      exact xi_b_Machine_load_95 (ih) _ _ _ _ _ (F42.up (by decide) (F42.up (by decide) hs))
theorem xi_f_Machine_load {σ0 : zS} {N : Nat} {σ : zS} {x2 : Int32}  (hs : F42 σ0 σ) : zp (zf_Machine_load N σ x2) (fun r => F42 σ0 r) := by
  unfold zf_Machine_load
  refine zp_ite (fun _ => ?_) fun _ => ?_
  ·
    exact zp_some hs
  ·
    refine zp_ite (fun _ => ?_) fun _ => ?_
    ·
      refine zp_chk fun _ => ?_
      refine zp_bind (zp_mono (xi_f_Arrays_fill_c4  (F42.cp (by decide) hs)) fun r4 hr4 => ?_)
      exact xi_b_Machine_load_34  _ _ _ hr4
    ·
      exact zp_some hs
theorem xi_f_Space_load {σ0 : zS} {N : Nat} {σ : zS} {x1 : Int32}  (hs : F42 σ0 σ) : zp (zf_Space_load N σ x1) (fun r => F42 σ0 r) := by
  unfold zf_Space_load
  refine zp_bind fun r1 _ => ?_
  refine zp_ite (fun _ => ?_) fun _ => ?_
  ·
    exact zp_some hs
  ·
    refine zp_bind (zp_mono (xi_f_Machine_load  hs) fun r3 hr3 => ?_)
    exact zp_some hr3
theorem xi_f_Numbers_clear {σ0 : zS} {σ : zS}  (hs : F42 σ0 σ) : zp (zf_Numbers_clear σ) (fun r => F42 σ0 r) := by
  unfold zf_Numbers_clear
  exact zp_some (F42.up (by decide) hs)
theorem xi_f_Numbers_clear_c1 {σ0 : zS} {σ : zS}  (hs : F42 σ0 σ) : zp (zf_Numbers_clear_c1 σ) (fun r => F42 σ0 r) := by
  unfold zf_Numbers_clear_c1
  exact zp_some (F42.up (by decide) hs)
theorem xi_f_Numbers_clear_c2 {σ0 : zS} {σ : zS}  (hs : F42 σ0 σ) : zp (zf_Numbers_clear_c2 σ) (fun r => F42 σ0 r) := by
  unfold zf_Numbers_clear_c2
  exact zp_some (F42.up (by decide) hs)
theorem xi_b_Arrays_fill_c5_5 {σ0 : zS} {N : Nat}  : ∀ (n : Nat) (σ : zS) (v1 : Int32) (v2 : Int32) (v3 : Int32), F42 σ0 σ → zp (zb_Arrays_fill_c5_5 N n σ v1 v2 v3) (fun r => F42 σ0 r) := by
  intro n
  induction n with
  | zero => intro _ _ _ _ _; exact zp_none
  | succ n ih =>
    intro σ v1 v2 v3 hs
    rw [zb_Arrays_fill_c5_5]
    refine zp_ite (fun _ => ?_) fun _ => ?_
    ·
      exact zp_some hs
    ·
      refine zp_chk fun _ => ?_
      exact ih _ _ _ _ (F42.up (by decide) hs)
theorem xi_f_Arrays_fill_c5 {σ0 : zS} {N : Nat} {σ : zS} {x2 : Int32}  (hs : F42 σ0 σ) : zp (zf_Arrays_fill_c5 N σ x2) (fun r => F42 σ0 r) := by
  unfold zf_Arrays_fill_c5
  exact xi_b_Arrays_fill_c5_5  _ _ _ _ _ hs
theorem xi_f_Numbers_clear_c3 {σ0 : zS} {σ : zS}  (hs : F42 σ0 σ) : zp (zf_Numbers_clear_c3 σ) (fun r => F42 σ0 r) := by
  unfold zf_Numbers_clear_c3
  exact zp_some (F42.up (by decide) hs)
theorem xi_f_Numbers_clear_c4 {σ0 : zS} {σ : zS}  (hs : F42 σ0 σ) : zp (zf_Numbers_clear_c4 σ) (fun r => F42 σ0 r) := by
  unfold zf_Numbers_clear_c4
  exact zp_some (F42.up (by decide) hs)
theorem xi_f_Numbers_add {σ0 : zS} {σ : zS} {x1 : Int32}  (hs : F42 σ0 σ) : zp (zf_Numbers_add σ x1) (fun r => F42 σ0 r) := by
  unfold zf_Numbers_add
  refine zp_ite (fun _ => ?_) fun _ => ?_
  ·
    exact zp_some hs
  ·
    refine zp_ite (fun _ => ?_) fun _ => ?_
    ·
      exact zp_some hs
    ·
      refine zp_chk fun _ => ?_
      exact zp_some (F42.up (by decide) (F42.up (by decide) hs))
theorem xi_f_Numbers_add_c1 {σ0 : zS} {σ : zS} {x1 : Int32}  (hs : F42 σ0 σ) : zp (zf_Numbers_add_c1 σ x1) (fun r => F42 σ0 r) := by
  unfold zf_Numbers_add_c1
  refine zp_ite (fun _ => ?_) fun _ => ?_
  ·
    exact zp_some hs
  ·
    refine zp_ite (fun _ => ?_) fun _ => ?_
    ·
      exact zp_some hs
    ·
      refine zp_chk fun _ => ?_
      exact zp_some (F42.up (by decide) (F42.up (by decide) hs))
theorem xi_b_Findings_listRaces_56 {σ0 : zS} {k16 : zS → Int32 → Option (zS)} {N : Nat} {σ : zS} {v1 : Int32} (hk16 : ∀ (y0 : zS) (y1 : Int32), F42 σ0 y0 → zp (k16 y0 y1) (fun r => F42 σ0 r)) (hs : F42 σ0 σ) : zp (zb_Findings_listRaces_56 k16 N σ v1) (fun r => F42 σ0 r) := by
  unfold zb_Findings_listRaces_56
  exact hk16 _ _ hs
theorem xi_b_Findings_listRaces_16 {σ0 : zS} {N : Nat}  : ∀ (n : Nat) (σ : zS) (v1 : Int32), F42 σ0 σ → zp (zb_Findings_listRaces_16 N n σ v1) (fun r => F42 σ0 r) := by
  intro n
  induction n with
  | zero => intro _ _ _; exact zp_none
  | succ n ih =>
    intro σ v1 hs
    rw [zb_Findings_listRaces_16]
    refine zp_ite (fun _ => ?_) fun _ => ?_
    ·
      exact zp_some hs
    ·
      refine zp_chk fun _ => ?_
      refine zp_ite (fun _ => ?_) fun _ => ?_
      ·
        exact xi_b_Findings_listRaces_56 (ih) hs
      ·
        refine zp_bind (zp_mono (xi_f_Numbers_add  hs) fun r6 hr6 => ?_)
        refine zp_chk fun _ => ?_
        refine zp_bind (zp_mono (xi_f_Numbers_add_c1  hr6) fun r8 hr8 => ?_)
        exact xi_b_Findings_listRaces_56 (ih) hr8
theorem xi_f_Findings_listRaces {σ0 : zS} {N : Nat} {σ : zS}  (hs : F42 σ0 σ) : zp (zf_Findings_listRaces N σ) (fun r => F42 σ0 r) := by
  unfold zf_Findings_listRaces
  refine zp_bind (zp_mono (xi_f_Numbers_clear_c3  hs) fun r1 hr1 => ?_)
  refine zp_bind (zp_mono (xi_f_Numbers_clear_c4  hr1) fun r2 hr2 => ?_)
  exact xi_b_Findings_listRaces_16  _ _ _ hr2
theorem xi_f_Numbers_clear_c5 {σ0 : zS} {σ : zS}  (hs : F42 σ0 σ) : zp (zf_Numbers_clear_c5 σ) (fun r => F42 σ0 r) := by
  unfold zf_Numbers_clear_c5
  exact zp_some (F42.up (by decide) hs)
theorem xi_f_Numbers_clear_c6 {σ0 : zS} {σ : zS}  (hs : F42 σ0 σ) : zp (zf_Numbers_clear_c6 σ) (fun r => F42 σ0 r) := by
  unfold zf_Numbers_clear_c6
  exact zp_some (F42.up (by decide) hs)
theorem xi_b_Arrays_fill_c6_5 {σ0 : zS} {N : Nat}  : ∀ (n : Nat) (σ : zS) (v1 : Int32) (v2 : Int32) (v3 : Int32), F42 σ0 σ → zp (zb_Arrays_fill_c6_5 N n σ v1 v2 v3) (fun r => F42 σ0 r) := by
  intro n
  induction n with
  | zero => intro _ _ _ _ _; exact zp_none
  | succ n ih =>
    intro σ v1 v2 v3 hs
    rw [zb_Arrays_fill_c6_5]
    refine zp_ite (fun _ => ?_) fun _ => ?_
    ·
      exact zp_some hs
    ·
      refine zp_chk fun _ => ?_
      exact ih _ _ _ _ (F42.up (by decide) hs)
theorem xi_f_Arrays_fill_c6 {σ0 : zS} {N : Nat} {σ : zS} {x2 : Int32}  (hs : F42 σ0 σ) : zp (zf_Arrays_fill_c6 N σ x2) (fun r => F42 σ0 r) := by
  unfold zf_Arrays_fill_c6
  exact xi_b_Arrays_fill_c6_5  _ _ _ _ _ hs
theorem xi_f_Numbers_add_c2 {σ0 : zS} {σ : zS} {x1 : Int32}  (hs : F42 σ0 σ) : zp (zf_Numbers_add_c2 σ x1) (fun r => F42 σ0 r) := by
  unfold zf_Numbers_add_c2
  refine zp_ite (fun _ => ?_) fun _ => ?_
  ·
    exact zp_some hs
  ·
    refine zp_ite (fun _ => ?_) fun _ => ?_
    ·
      exact zp_some hs
    ·
      refine zp_chk fun _ => ?_
      exact zp_some (F42.up (by decide) (F42.up (by decide) hs))
theorem xi_f_Numbers_add_c3 {σ0 : zS} {σ : zS} {x1 : Int32}  (hs : F42 σ0 σ) : zp (zf_Numbers_add_c3 σ x1) (fun r => F42 σ0 r) := by
  unfold zf_Numbers_add_c3
  refine zp_ite (fun _ => ?_) fun _ => ?_
  ·
    exact zp_some hs
  ·
    refine zp_ite (fun _ => ?_) fun _ => ?_
    ·
      exact zp_some hs
    ·
      refine zp_chk fun _ => ?_
      exact zp_some (F42.up (by decide) (F42.up (by decide) hs))
theorem xi_f_Outcomes_note {σ0 : zS} {N : Nat} {σ : zS} {x1 : Int32} {x2 : Int32}  (hs : F42 σ0 σ) : zp (zf_Outcomes_note N σ x1 x2) (fun r => F42 σ0 r) := by
  unfold zf_Outcomes_note
  refine zp_bind fun r1 _ => ?_
  refine zp_chk fun _ => ?_
  refine zp_ite (fun _ => ?_) fun _ => ?_
  ·
    exact zp_some hs
  ·
    refine zp_bind (zp_mono (xi_f_Numbers_add_c2  hs) fun r4 hr4 => ?_)
    refine zp_bind (zp_mono (xi_f_Numbers_add_c3  hr4) fun r5 hr5 => ?_)
    refine zp_chk fun _ => ?_
    exact zp_some (F42.up (by decide) hr5)
theorem xi_b_Outcomes_gather_57 {σ0 : zS} {k24 : zS → Int32 → Option (zS)} {N : Nat} {σ : zS} {v2 : Int32} (hk24 : ∀ (y0 : zS) (y1 : Int32), F42 σ0 y0 → zp (k24 y0 y1) (fun r => F42 σ0 r)) (hs : F42 σ0 σ) : zp (zb_Outcomes_gather_57 k24 N σ v2) (fun r => F42 σ0 r) := by
  unfold zb_Outcomes_gather_57
  exact hk24 _ _ hs
theorem xi_b_Outcomes_gather_24 {σ0 : zS} {N : Nat}  : ∀ (n : Nat) (σ : zS) (v2 : Int32), F42 σ0 σ → zp (zb_Outcomes_gather_24 N n σ v2) (fun r => F42 σ0 r) := by
  intro n
  induction n with
  | zero => intro _ _ _; exact zp_none
  | succ n ih =>
    intro σ v2 hs
    rw [zb_Outcomes_gather_24]
    refine zp_ite (fun _ => ?_) fun _ => ?_
    ·
      exact zp_some hs
    ·
      refine zp_bind fun r5 _ => ?_
      refine zp_ite (fun _ => ?_) fun _ => ?_
      ·
        exact xi_b_Outcomes_gather_57 (ih) hs
      ·
        refine zp_bind (zp_mono (xi_f_Space_load  hs) fun r7 hr7 => ?_)
        refine zp_bind fun r8 _ => ?_
        refine zp_bind (zp_mono (xi_f_Outcomes_note  hr7) fun r9 hr9 => ?_)
        exact xi_b_Outcomes_gather_57 (ih) hr9
theorem xi_f_Outcomes_gather {σ0 : zS} {N : Nat} {σ : zS}  (hs : F42 σ0 σ) : zp (zf_Outcomes_gather N σ) (fun r => F42 σ0 r) := by
  unfold zf_Outcomes_gather
  refine zp_bind (zp_mono (xi_f_Numbers_clear_c5  hs) fun r1 hr1 => ?_)
  refine zp_bind (zp_mono (xi_f_Numbers_clear_c6  hr1) fun r2 hr2 => ?_)
  refine zp_bind (zp_mono (xi_f_Arrays_fill_c6  hr2) fun r3 hr3 => ?_)
  exact xi_b_Outcomes_gather_24  _ _ _ hr3
theorem xi_f_Findings_noteRace {σ0 : zS} {σ : zS} {x1 : Int32} {x2 : Int32} {x3 : Int32}  (hs : F42 σ0 σ) : zp (zf_Findings_noteRace σ x1 x2 x3) (fun r => F42 σ0 r) := by
  unfold zf_Findings_noteRace
  refine zp_bind fun r1 _ => ?_
  refine zp_ite (fun _ => ?_) fun _ => ?_
  ·
    exact zp_some hs
  ·
    refine zp_ite (fun _ => ?_) fun _ => ?_
    ·
      exact zp_some hs
    ·
      refine zp_ite (fun _ => ?_) fun _ => ?_
      ·
        exact zp_some hs
      ·
        refine zp_chk fun _ => ?_
        refine zp_ite (fun _ => ?_) fun _ => ?_
        ·
          exact zp_some hs
        ·
          refine zp_chk fun _ => ?_
          exact zp_some (F42.up (by decide) hs)
theorem xi_b_Findings_noteRaces_83 {σ0 : zS} {k17 : zS → Int32 → Int32 → Int32 → Option (zS)} {N : Nat} {σ : zS} {v1 : Int32} {v2 : Int32} {v3 : Int32} (hk17 : ∀ (y0 : zS) (y1 : Int32) (y2 : Int32) (y3 : Int32), F42 σ0 y0 → zp (k17 y0 y1 y2 y3) (fun r => F42 σ0 r)) (hs : F42 σ0 σ) : zp (zb_Findings_noteRaces_83 k17 N σ v1 v2 v3) (fun r => F42 σ0 r) := by
  unfold zb_Findings_noteRaces_83
  exact hk17 _ _ _ _ hs
theorem xi_b_Findings_noteRaces_17 {σ0 : zS} {k2 : zS → Int32 → Int32 → Option (zS)} {N : Nat} (hk2 : ∀ (y0 : zS) (y1 : Int32) (y2 : Int32), F42 σ0 y0 → zp (k2 y0 y1 y2) (fun r => F42 σ0 r)) : ∀ (n : Nat) (σ : zS) (v1 : Int32) (v2 : Int32) (v3 : Int32), F42 σ0 σ → zp (zb_Findings_noteRaces_17 k2 N n σ v1 v2 v3) (fun r => F42 σ0 r) := by
  intro n
  induction n with
  | zero => intro _ _ _ _ _; exact zp_none
  | succ n ih =>
    intro σ v1 v2 v3 hs
    rw [zb_Findings_noteRaces_17]
    refine zp_ite (fun _ => ?_) fun _ => ?_
    ·
      exact hk2 _ _ _ hs
    ·
      refine zp_bind fun r3 _ => ?_
      refine zp_ite (fun _ => ?_) fun _ => ?_
      ·
        exact xi_b_Findings_noteRaces_83 (ih) hs
      ·
        refine zp_bind fun r5 _ => ?_
        refine zp_ite (fun _ => ?_) fun _ => ?_
        ·
          exact xi_b_Findings_noteRaces_83 (ih) hs
        ·
          refine zp_bind fun r7 _ => ?_
          refine zp_bind fun r8 _ => ?_
          refine zp_bind (zp_mono (xi_f_Findings_noteRace  hs) fun r9 hr9 => ?_)
          exact xi_b_Findings_noteRaces_83 (ih) hr9
theorem xi_b_Findings_noteRaces_2 {σ0 : zS} {N : Nat}  : ∀ (n : Nat) (σ : zS) (v1 : Int32) (v2 : Int32), F42 σ0 σ → zp (zb_Findings_noteRaces_2 N n σ v1 v2) (fun r => F42 σ0 r) := by
  intro n
  induction n with
  | zero => intro _ _ _ _; exact zp_none
  | succ n ih =>
    intro σ v1 v2 hs
    rw [zb_Findings_noteRaces_2]
    refine zp_ite (fun _ => ?_) fun _ => ?_
    ·
      exact zp_some hs
    ·
      exact xi_b_Findings_noteRaces_17 (ih) _ _ _ _ _ hs
theorem xi_f_Findings_noteRaces {σ0 : zS} {N : Nat} {σ : zS} {x1 : Int32}  (hs : F42 σ0 σ) : zp (zf_Findings_noteRaces N σ x1) (fun r => F42 σ0 r) := by
  unfold zf_Findings_noteRaces
  exact xi_b_Findings_noteRaces_2  _ _ _ _ hs
theorem xi_f_Numbers_add_c4 {σ0 : zS} {σ : zS} {x1 : Int32}  (hs : F42 σ0 σ) : zp (zf_Numbers_add_c4 σ x1) (fun r => F42 σ0 r) := by
  unfold zf_Numbers_add_c4
  refine zp_ite (fun _ => ?_) fun _ => ?_
  ·
    exact zp_some hs
  ·
    refine zp_ite (fun _ => ?_) fun _ => ?_
    ·
      exact zp_some hs
    ·
      refine zp_chk fun _ => ?_
      exact zp_some (F42.up (by decide) (F42.up (by decide) hs))
theorem xi_f_Numbers_add_c5 {σ0 : zS} {σ : zS} {x1 : Int32}  (hs : F42 σ0 σ) : zp (zf_Numbers_add_c5 σ x1) (fun r => F42 σ0 r) := by
  unfold zf_Numbers_add_c5
  refine zp_ite (fun _ => ?_) fun _ => ?_
  ·
    exact zp_some hs
  ·
    refine zp_ite (fun _ => ?_) fun _ => ?_
    ·
      exact zp_some hs
    ·
      refine zp_chk fun _ => ?_
      exact zp_some (F42.up (by decide) (F42.up (by decide) hs))
theorem xi_f_Numbers_add_c6 {σ0 : zS} {σ : zS} {x1 : Int32}  (hs : F42 σ0 σ) : zp (zf_Numbers_add_c6 σ x1) (fun r => F42 σ0 r) := by
  unfold zf_Numbers_add_c6
  refine zp_ite (fun _ => ?_) fun _ => ?_
  ·
    exact zp_some hs
  ·
    refine zp_ite (fun _ => ?_) fun _ => ?_
    ·
      exact zp_some hs
    ·
      refine zp_chk fun _ => ?_
      exact zp_some (F42.up (by decide) (F42.up (by decide) hs))
theorem xi_b_Findings_gather_97 {σ0 : zS} {k31 : zS → Int32 → Option (zS)} {N : Nat} {σ : zS} {v2 : Int32} (hk31 : ∀ (y0 : zS) (y1 : Int32), F42 σ0 y0 → zp (k31 y0 y1) (fun r => F42 σ0 r)) (hs : F42 σ0 σ) : zp (zb_Findings_gather_97 k31 N σ v2) (fun r => F42 σ0 r) := by
  unfold zb_Findings_gather_97
  refine zp_bind (zp_mono (xi_f_Findings_noteRaces  hs) fun r13 hr13 => ?_)
  exact hk31 _ _ hr13
theorem xi_b_Findings_gather_91_1 {σ0 : zS} {k31 : zS → Int32 → Option (zS)} {N : Nat} {σ : zS} {v2 : Int32} (hk31 : ∀ (y0 : zS) (y1 : Int32), F42 σ0 y0 → zp (k31 y0 y1) (fun r => F42 σ0 r)) (hs : F42 σ0 σ) : zp (zb_Findings_gather_91_1 k31 N σ v2) (fun r => F42 σ0 r) := by
  unfold zb_Findings_gather_91_1
  refine zp_bind (zp_mono (xi_f_Numbers_add_c5  hs) fun r17 hr17 => ?_)
  exact xi_b_Findings_gather_97 (hk31) hr17
theorem xi_b_Findings_gather_91 {σ0 : zS} {k31 : zS → Int32 → Option (zS)} {N : Nat} {σ : zS} {v2 : Int32} (hk31 : ∀ (y0 : zS) (y1 : Int32), F42 σ0 y0 → zp (k31 y0 y1) (fun r => F42 σ0 r)) (hs : F42 σ0 σ) : zp (zb_Findings_gather_91 k31 N σ v2) (fun r => F42 σ0 r) := by
  unfold zb_Findings_gather_91
  refine zp_bind (zp_mono (xi_f_Numbers_add_c4  hs) fun r16 hr16 => ?_)
  exact xi_b_Findings_gather_97 (hk31) hr16
theorem xi_b_Findings_gather_62 {σ0 : zS} {k31 : zS → Int32 → Option (zS)} {N : Nat} {σ : zS} {v2 : Int32} (hk31 : ∀ (y0 : zS) (y1 : Int32), F42 σ0 y0 → zp (k31 y0 y1) (fun r => F42 σ0 r)) (hs : F42 σ0 σ) : zp (zb_Findings_gather_62 k31 N σ v2) (fun r => F42 σ0 r) := by
  unfold zb_Findings_gather_62
  refine zp_bind fun r11 _ => ?_
  refine zp_ite (fun _ => ?_) fun _ => ?_
  ·
    exact xi_b_Findings_gather_97 (hk31) hs
  ·
    refine zp_bind fun r14 _ => ?_
    refine zp_ite (fun _ => ?_) fun _ => ?_
    ·
      exact xi_b_Findings_gather_91 (hk31) hs
    ·
      exact xi_b_Findings_gather_91_1 (hk31) hs
theorem xi_b_Findings_gather_31 {σ0 : zS} {N : Nat}  : ∀ (n : Nat) (σ : zS) (v2 : Int32), F42 σ0 σ → zp (zb_Findings_gather_31 N n σ v2) (fun r => F42 σ0 r) := by
  intro n
  induction n with
  | zero => intro _ _ _; exact zp_none
  | succ n ih =>
    intro σ v2 hs
    rw [zb_Findings_gather_31]
    refine zp_ite (fun _ => ?_) fun _ => ?_
    ·
      refine zp_bind (zp_mono (xi_f_Findings_listRaces  hs) fun r6 hr6 => ?_)
      refine zp_bind (zp_mono (xi_f_Outcomes_gather  hr6) fun r7 hr7 => ?_)
      exact zp_some hr7
    ·
      refine zp_bind (zp_mono (xi_f_Space_load  hs) fun r8 hr8 => ?_)
      refine zp_bind fun r9 _ => ?_
      refine zp_ite (fun _ => ?_) fun _ => ?_
      ·
        exact xi_b_Findings_gather_62 (ih) hr8
      ·
        refine zp_bind (zp_mono (xi_f_Numbers_add_c6  hr8) fun r18 hr18 => ?_)
        exact xi_b_Findings_gather_62 (ih) hr18
theorem xi_f_Findings_gather {σ0 : zS} {N : Nat} {σ : zS}  (hs : F42 σ0 σ) : zp (zf_Findings_gather N σ) (fun r => F42 σ0 r) := by
  unfold zf_Findings_gather
  refine zp_bind (zp_mono (xi_f_Numbers_clear  hs) fun r1 hr1 => ?_)
  refine zp_bind (zp_mono (xi_f_Numbers_clear_c1  hr1) fun r2 hr2 => ?_)
  refine zp_bind (zp_mono (xi_f_Numbers_clear_c2  hr2) fun r3 hr3 => ?_)
  refine zp_bind (zp_mono (xi_f_Arrays_fill_c5  hr3) fun r4 hr4 => ?_)
  exact xi_b_Findings_gather_31  _ _ _ hr4
