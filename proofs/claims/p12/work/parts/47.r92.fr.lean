-- both answer alike
set_option maxRecDepth 2000
def F62 (σ0 σ : zS) : Prop := σ 82 62 = -1
theorem F62.up {σ0 σ : zS} {p i : Nat} {x : Int32} (hp : 82 ≠ p) (h : F62 σ0 σ) : F62 σ0 (zx_up σ p i x) := by
  unfold F62 at *
  rw [zu_other hp]
  exact h
theorem F62.u8 {σ0 σ : zS} {i : Nat} {x : Int32} (hi : 62 ≠ i) (h : F62 σ0 σ) : F62 σ0 (zx_up σ 82 i x) := by
  unfold F62 at *
  rw [zx_up_same, zu_ne hi]
  exact h
theorem xq_b_M_next_361 {σ0 : zS} {N : Nat} {σ : zS} {v2 : Int32} {s0 : Int32}  (hs : F62 σ0 σ) : zp (zb_M_next_361 N σ v2 s0) (fun r => F62 σ0 r) := by
  unfold zb_M_next_361
  exact zp_some (F62.u8 (by decide) (F62.u8 (by decide) hs))
theorem xq_b_M_next_348 {σ0 : zS} {N : Nat} {σ : zS} {v2 : Int32} {s0 : Int32}  (hs : F62 σ0 σ) : zp (zb_M_next_348 N σ v2 s0) (fun r => F62 σ0 r) := by
  unfold zb_M_next_348
  refine zp_ite (fun _ => ?_) fun _ => ?_
  ·
    exact xq_b_M_next_361  hs
  ·
    exact xq_b_M_next_361  hs
theorem xq_b_M_next_343 {σ0 : zS} {N : Nat} {σ : zS} {v2 : Int32}  (hs : F62 σ0 σ) : zp (zb_M_next_343 N σ v2) (fun r => F62 σ0 r) := by
  unfold zb_M_next_343
  exact xq_b_M_next_348  hs
theorem xq_b_M_next_295 {σ0 : zS} {N : Nat} {σ : zS} {v2 : Int32}  (hs : F62 σ0 σ) : zp (zb_M_next_295 N σ v2) (fun r => F62 σ0 r) := by
  unfold zb_M_next_295
  refine zp_ite (fun _ => ?_) fun _ => ?_
  ·
    exact xq_b_M_next_343  hs
  ·
    refine zp_ite (fun _ => ?_) fun _ => ?_
    ·
      exact xq_b_M_next_343  hs
    ·
      refine zp_ite (fun _ => ?_) fun _ => ?_
      ·
        exact xq_b_M_next_343  hs
      ·
        refine zp_ite (fun _ => ?_) fun _ => ?_
        ·
          exact xq_b_M_next_343  hs
        ·
          refine zp_ite (fun _ => ?_) fun _ => ?_
          ·
            exact xq_b_M_next_343  hs
          ·
            refine zp_ite (fun _ => ?_) fun _ => ?_
            ·
              exact xq_b_M_next_343  hs
            ·
              refine zp_ite (fun _ => ?_) fun _ => ?_
              ·
                exact xq_b_M_next_343  hs
              ·
                refine zp_ite (fun _ => ?_) fun _ => ?_
                ·
                  exact xq_b_M_next_348  hs
                ·
                  exact xq_b_M_next_343  hs
theorem xq_b_M_next_289 {σ0 : zS} {N : Nat} {σ : zS} {s0 : Int32}  (hs : F62 σ0 σ) : zp (zb_M_next_289 N σ s0) (fun r => F62 σ0 r) := by
  unfold zb_M_next_289
  exact zp_some (F62.u8 (by decide) hs)
theorem xq_b_M_next_257 {σ0 : zS} {N : Nat} {σ : zS} {v2 : Int32} {v3 : Int32}  (hs : F62 σ0 σ) : zp (zb_M_next_257 N σ v2 v3) (fun r => F62 σ0 r) := by
  unfold zb_M_next_257
  refine zp_ite (fun _ => ?_) fun _ => ?_
  ·
    exact xq_b_M_next_295  hs
  ·
    refine zp_ite (fun _ => ?_) fun _ => ?_
    ·
      exact xq_b_M_next_289  (F62.u8 (by decide) (F62.u8 (by decide) hs))
    ·
      exact xq_b_M_next_289  (F62.u8 (by decide) (F62.u8 (by decide) hs))
theorem xq_b_M_next_239 {σ0 : zS} {N : Nat} {σ : zS} {s0 : Int32}  (hs : F62 σ0 σ) : zp (zb_M_next_239 N σ s0) (fun r => F62 σ0 r) := by
  unfold zb_M_next_239
  exact zp_some (F62.u8 (by decide) hs)
theorem xq_b_M_next_234 {σ0 : zS} {N : Nat} {σ : zS}  (hs : F62 σ0 σ) : zp (zb_M_next_234 N σ) (fun r => F62 σ0 r) := by
  unfold zb_M_next_234
  exact xq_b_M_next_239  hs
theorem xq_b_M_next_161 {σ0 : zS} {N : Nat} {σ : zS} {s0 : Int32}  (hs : F62 σ0 σ) : zp (zb_M_next_161 N σ s0) (fun r => F62 σ0 r) := by
  unfold zb_M_next_161
  refine zp_ite (fun _ => ?_) fun _ => ?_
  ·
    exact zp_some (F62.u8 (by decide) hs)
  ·
    refine zp_bind fun r35 _ => ?_
    refine zp_ite (fun _ => ?_) fun _ => ?_
    ·
      exact zp_some (F62.u8 (by decide) hs)
    ·
      refine zp_bind fun r37 _ => ?_
      exact zp_some (F62.u8 (by decide) (F62.u8 (by decide) (F62.u8 (by decide) hs)))
theorem xq_b_M_next_133 {σ0 : zS} {k101 : zS → Int32 → Option (zS)} {N : Nat} {σ : zS} {v1 : Int32} (hk101 : ∀ (y0 : zS) (y1 : Int32), F62 σ0 y0 → zp (k101 y0 y1) (fun r => F62 σ0 r)) (hs : F62 σ0 σ) : zp (zb_M_next_133 k101 N σ v1) (fun r => F62 σ0 r) := by
  unfold zb_M_next_133
  exact hk101 _ _ (F62.u8 (by decide) hs)
theorem xq_b_M_next_101 {σ0 : zS} {N : Nat}  : ∀ (n : Nat) (σ : zS) (v1 : Int32), F62 σ0 σ → zp (zb_M_next_101 N n σ v1) (fun r => F62 σ0 r) := by
  intro n
  induction n with
  | zero => intro _ _ _; exact zp_none
  | succ n ih =>
    intro σ v1 hs
    rw [zb_M_next_101]
    refine zp_bind fun r27 _ => ?_
    refine zp_bind fun r28 _ => ?_
    refine zp_ite (fun _ => ?_) fun _ => ?_
    ·
      exact xq_b_M_next_133 (ih) hs
    ·
      refine zp_bind fun r30 _ => ?_
      refine zp_bind fun r31 _ => ?_
      refine zp_ite (fun _ => ?_) fun _ => ?_
      ·
        refine zp_ite (fun _ => ?_) fun _ => ?_
        ·
          exact xq_b_M_next_161  hs
        ·
          exact xq_b_M_next_161  hs
      ·
        exact xq_b_M_next_133 (ih) hs
theorem xq_b_M_next_44 {σ0 : zS} {N : Nat} {σ : zS} {v1 : Int32}  (hs : F62 σ0 σ) : zp (zb_M_next_44 N σ v1) (fun r => F62 σ0 r) := by
  unfold zb_M_next_44
  refine zp_bind fun r2 _ => ?_
  refine zp_bind fun r3 _ => ?_
  refine zp_ite (fun _ => ?_) fun _ => ?_
  ·
    refine zp_bind fun r5 _ => ?_
    refine zp_ite (fun _ => ?_) fun _ => ?_
    ·
      refine zp_bind fun r7 _ => ?_
      refine zp_ite (fun _ => ?_) fun _ => ?_
      ·
        refine zp_ite (fun _ => ?_) fun _ => ?_
        ·
          exact xq_b_M_next_257  (F62.u8 (by decide) (F62.u8 (by decide) (F62.u8 (by decide) hs)))
        ·
          refine zp_ite (fun _ => ?_) fun _ => ?_
          ·
            exact xq_b_M_next_295  (F62.u8 (by decide) (F62.u8 (by decide) (F62.u8 (by decide) hs)))
          ·
            exact xq_b_M_next_257  (F62.u8 (by decide) (F62.u8 (by decide) (F62.u8 (by decide) hs)))
      ·
        refine zp_ite (fun _ => ?_) fun _ => ?_
        ·
          exact xq_b_M_next_234  (F62.u8 (by decide) (F62.u8 (by decide) (F62.u8 (by decide) (F62.u8 (by decide) hs))))
        ·
          refine zp_bind fun r23 _ => ?_
          refine zp_ite (fun _ => ?_) fun _ => ?_
          ·
            exact xq_b_M_next_234  (F62.u8 (by decide) (F62.u8 (by decide) (F62.u8 (by decide) (F62.u8 (by decide) hs))))
          ·
            refine zp_bind fun r25 _ => ?_
            refine zp_ite (fun _ => ?_) fun _ => ?_
            ·
              exact xq_b_M_next_239  (F62.u8 (by decide) (F62.u8 (by decide) (F62.u8 (by decide) (F62.u8 (by decide) hs))))
            ·
              exact xq_b_M_next_234  (F62.u8 (by decide) (F62.u8 (by decide) (F62.u8 (by decide) (F62.u8 (by decide) hs))))
    ·
      exact xq_b_M_next_101  _ _ _ (F62.u8 (by decide) (F62.u8 (by decide) (F62.u8 (by decide) hs)))
  ·
    exact zp_some (F62.u8 (by decide) (F62.u8 (by decide) (F62.u8 (by decide) (F62.u8 (by decide) (F62.u8 (by decide) hs)))))
theorem xq_b_M_next_38 {σ0 : zS} {k10 : zS → Int32 → Option (zS)} {N : Nat} {σ : zS} {v1 : Int32} (hk10 : ∀ (y0 : zS) (y1 : Int32), F62 σ0 y0 → zp (k10 y0 y1) (fun r => F62 σ0 r)) (hs : F62 σ0 σ) : zp (zb_M_next_38 k10 N σ v1) (fun r => F62 σ0 r) := by
  unfold zb_M_next_38
  exact hk10 _ _ hs
theorem xq_b_M_next_10 {σ0 : zS} {N : Nat}  : ∀ (n : Nat) (σ : zS) (v1 : Int32), F62 σ0 σ → zp (zb_M_next_10 N n σ v1) (fun r => F62 σ0 r) := by
  intro n
  induction n with
  | zero => intro _ _ _; exact zp_none
  | succ n ih =>
    intro σ v1 hs
    rw [zb_M_next_10]
    refine zp_ite (fun _ => ?_) fun _ => ?_
    ·
      exact xq_b_M_next_44  hs
    ·
      refine zp_bind fun r38 _ => ?_
      refine zp_ite (fun _ => ?_) fun _ => ?_
      ·
        exact xq_b_M_next_38 (ih) hs
      ·
        refine zp_bind fun r40 _ => ?_
        refine zp_ite (fun _ => ?_) fun _ => ?_
        ·
          exact xq_b_M_next_44  hs
        ·
          exact xq_b_M_next_38 (ih) hs
theorem xq_f_M_next {σ0 : zS} {N : Nat} {σ : zS}  (hs : F62 σ0 σ) : zp (zf_M_next N σ) (fun r => F62 σ0 r) := by
  unfold zf_M_next
  exact xq_b_M_next_10  _ _ _ hs
theorem xq_b_M_findLaters_245 {σ0 : zS} {k180 : zS → Int32 → Int32 → Int32 → Int32 → Option (zS)} {N : Nat} {σ : zS} {v1 : Int32} {v2 : Int32} {v3 : Int32} {v4 : Int32} (hk180 : ∀ (y0 : zS) (y1 : Int32) (y2 : Int32) (y3 : Int32) (y4 : Int32), F62 σ0 y0 → zp (k180 y0 y1 y2 y3 y4) (fun r => F62 σ0 r)) (hs : F62 σ0 σ) : zp (zb_M_findLaters_245 k180 N σ v1 v2 v3 v4) (fun r => F62 σ0 r) := by
  unfold zb_M_findLaters_245
  exact hk180 _ _ _ _ _ hs
theorem xq_b_M_findLaters_224 {σ0 : zS} {k180 : zS → Int32 → Int32 → Int32 → Int32 → Option (zS)} {N : Nat} {σ : zS} {v1 : Int32} {v2 : Int32} {v3 : Int32} {v4 : Int32} {v5 : Int32} (hk180 : ∀ (y0 : zS) (y1 : Int32) (y2 : Int32) (y3 : Int32) (y4 : Int32), F62 σ0 y0 → zp (k180 y0 y1 y2 y3 y4) (fun r => F62 σ0 r)) (hs : F62 σ0 σ) : zp (zb_M_findLaters_224 k180 N σ v1 v2 v3 v4 v5) (fun r => F62 σ0 r) := by
  unfold zb_M_findLaters_224
  refine zp_chk fun _ => ?_
  refine zp_ite (fun _ => ?_) fun _ => ?_
  ·
    exact xq_b_M_findLaters_245 (hk180) hs
  ·
    refine zp_chk fun _ => ?_
    exact xq_b_M_findLaters_245 (hk180) (F62.up (by decide) hs)
theorem xq_b_M_findLaters_180 {σ0 : zS} {k169 : zS → Int32 → Int32 → Int32 → Option (zS)} {N : Nat} (hk169 : ∀ (y0 : zS) (y1 : Int32) (y2 : Int32) (y3 : Int32), F62 σ0 y0 → zp (k169 y0 y1 y2 y3) (fun r => F62 σ0 r)) : ∀ (n : Nat) (σ : zS) (v1 : Int32) (v2 : Int32) (v3 : Int32) (v4 : Int32), F62 σ0 σ → zp (zb_M_findLaters_180 k169 N n σ v1 v2 v3 v4) (fun r => F62 σ0 r) := by
  intro n
  induction n with
  | zero => intro _ _ _ _ _ _; exact zp_none
  | succ n ih =>
    intro σ v1 v2 v3 v4 hs
    rw [zb_M_findLaters_180]
    refine zp_chk fun _ => ?_
    refine zp_ite (fun _ => ?_) fun _ => ?_
    ·
      exact hk169 _ _ _ _ hs
    ·
      refine zp_chk fun _ => ?_
      refine zp_ite (fun _ => ?_) fun _ => ?_
      ·
        exact xq_b_M_findLaters_224 (ih) hs
      ·
        refine zp_chk fun _ => ?_
        refine zp_ite (fun _ => ?_) fun _ => ?_
        ·
          exact xq_b_M_findLaters_245 (ih) hs
        ·
          exact xq_b_M_findLaters_224 (ih) hs
theorem xq_b_M_findLaters_169 {σ0 : zS} {k2 : zS → Int32 → Option (zS)} {N : Nat} (hk2 : ∀ (y0 : zS) (y1 : Int32), F62 σ0 y0 → zp (k2 y0 y1) (fun r => F62 σ0 r)) : ∀ (n : Nat) (σ : zS) (v1 : Int32) (v2 : Int32) (v3 : Int32), F62 σ0 σ → zp (zb_M_findLaters_169 k2 N n σ v1 v2 v3) (fun r => F62 σ0 r) := by
  intro n
  induction n with
  | zero => intro _ _ _ _ _; exact zp_none
  | succ n ih =>
    intro σ v1 v2 v3 hs
    rw [zb_M_findLaters_169]
    refine zp_ite (fun _ => ?_) fun _ => ?_
    ·
      exact hk2 _ _ hs
    ·
      exact xq_b_M_findLaters_180 (ih) _ _ _ _ _ _ hs
theorem xq_b_M_findLaters_167 {σ0 : zS} {k2 : zS → Int32 → Option (zS)} {N : Nat} {σ : zS} {v1 : Int32} {v2 : Int32} (hk2 : ∀ (y0 : zS) (y1 : Int32), F62 σ0 y0 → zp (k2 y0 y1) (fun r => F62 σ0 r)) (hs : F62 σ0 σ) : zp (zb_M_findLaters_167 k2 N σ v1 v2) (fun r => F62 σ0 r) := by
  unfold zb_M_findLaters_167
  exact xq_b_M_findLaters_169 (hk2) _ _ _ _ _ hs
theorem xq_b_M_findLaters_135 {σ0 : zS} {k21 : zS → Int32 → Int32 → Int32 → Option (zS)} {N : Nat} {σ : zS} {v1 : Int32} {v3 : Int32} {s0 : Int32} (hk21 : ∀ (y0 : zS) (y1 : Int32) (y2 : Int32) (y3 : Int32), F62 σ0 y0 → zp (k21 y0 y1 y2 y3) (fun r => F62 σ0 r)) (hs : F62 σ0 σ) : zp (zb_M_findLaters_135 k21 N σ v1 v3 s0) (fun r => F62 σ0 r) := by
  unfold zb_M_findLaters_135
  exact hk21 _ _ _ _ hs
theorem xq_b_M_findLaters_125 {σ0 : zS} {k21 : zS → Int32 → Int32 → Int32 → Option (zS)} {N : Nat} {σ : zS} {v1 : Int32} {v2 : Int32} {v3 : Int32} {v4 : Int32} (hk21 : ∀ (y0 : zS) (y1 : Int32) (y2 : Int32) (y3 : Int32), F62 σ0 y0 → zp (k21 y0 y1 y2 y3) (fun r => F62 σ0 r)) (hs : F62 σ0 σ) : zp (zb_M_findLaters_125 k21 N σ v1 v2 v3 v4) (fun r => F62 σ0 r) := by
  unfold zb_M_findLaters_125
  refine zp_ite (fun _ => ?_) fun _ => ?_
  ·
    exact xq_b_M_findLaters_135 (hk21) hs
  ·
    exact xq_b_M_findLaters_135 (hk21) hs
theorem xq_b_M_findLaters_117 {σ0 : zS} {k60 : zS → Int32 → Int32 → Int32 → Int32 → Int32 → Option (zS)} {N : Nat} {σ : zS} {v1 : Int32} {v2 : Int32} {v3 : Int32} {v5 : Int32} {s0 : Int32} (hk60 : ∀ (y0 : zS) (y1 : Int32) (y2 : Int32) (y3 : Int32) (y4 : Int32) (y5 : Int32), F62 σ0 y0 → zp (k60 y0 y1 y2 y3 y4 y5) (fun r => F62 σ0 r)) (hs : F62 σ0 σ) : zp (zb_M_findLaters_117 k60 N σ v1 v2 v3 v5 s0) (fun r => F62 σ0 r) := by
  unfold zb_M_findLaters_117
  exact hk60 _ _ _ _ _ _ hs
theorem xq_b_M_findLaters_60 {σ0 : zS} {k21 : zS → Int32 → Int32 → Int32 → Option (zS)} {N : Nat} (hk21 : ∀ (y0 : zS) (y1 : Int32) (y2 : Int32) (y3 : Int32), F62 σ0 y0 → zp (k21 y0 y1 y2 y3) (fun r => F62 σ0 r)) : ∀ (n : Nat) (σ : zS) (v1 : Int32) (v2 : Int32) (v3 : Int32) (v4 : Int32) (v5 : Int32), F62 σ0 σ → zp (zb_M_findLaters_60 k21 N n σ v1 v2 v3 v4 v5) (fun r => F62 σ0 r) := by
  intro n
  induction n with
  | zero => intro _ _ _ _ _ _ _; exact zp_none
  | succ n ih =>
    intro σ v1 v2 v3 v4 v5 hs
    rw [zb_M_findLaters_60]
    refine zp_chk fun _ => ?_
    refine zp_ite (fun _ => ?_) fun _ => ?_
    ·
      exact xq_b_M_findLaters_125 (hk21) hs
    ·
      refine zp_ite (fun _ => ?_) fun _ => ?_
      ·
        exact xq_b_M_findLaters_125 (hk21) hs
      ·
        refine zp_chk fun _ => ?_
        refine zp_chk fun _ => ?_
        refine zp_ite (fun _ => ?_) fun _ => ?_
        ·
          exact xq_b_M_findLaters_117 (ih) hs
        ·
          exact xq_b_M_findLaters_117 (ih) hs
theorem xq_b_M_findLaters_55 {σ0 : zS} {k21 : zS → Int32 → Int32 → Int32 → Option (zS)} {N : Nat} {σ : zS} {v1 : Int32} {v2 : Int32} {v3 : Int32} {s0 : Int32} (hk21 : ∀ (y0 : zS) (y1 : Int32) (y2 : Int32) (y3 : Int32), F62 σ0 y0 → zp (k21 y0 y1 y2 y3) (fun r => F62 σ0 r)) (hs : F62 σ0 σ) : zp (zb_M_findLaters_55 k21 N σ v1 v2 v3 s0) (fun r => F62 σ0 r) := by
  unfold zb_M_findLaters_55
  exact xq_b_M_findLaters_60 (hk21) _ _ _ _ _ _ _ hs
theorem xq_b_M_findLaters_21 {σ0 : zS} {k2 : zS → Int32 → Option (zS)} {N : Nat} (hk2 : ∀ (y0 : zS) (y1 : Int32), F62 σ0 y0 → zp (k2 y0 y1) (fun r => F62 σ0 r)) : ∀ (n : Nat) (σ : zS) (v1 : Int32) (v2 : Int32) (v3 : Int32), F62 σ0 σ → zp (zb_M_findLaters_21 k2 N n σ v1 v2 v3) (fun r => F62 σ0 r) := by
  intro n
  induction n with
  | zero => intro _ _ _ _ _; exact zp_none
  | succ n ih =>
    intro σ v1 v2 v3 hs
    rw [zb_M_findLaters_21]
    refine zp_ite (fun _ => ?_) fun _ => ?_
    ·
      refine zp_ite (fun _ => ?_) fun _ => ?_
      ·
        exact xq_b_M_findLaters_167 (hk2) hs
      ·
        refine zp_chk fun _ => ?_
        exact xq_b_M_findLaters_167 (hk2) (F62.u8 (by decide) (F62.u8 (by decide) (F62.u8 (by decide) hs)))
    ·
      refine zp_chk fun _ => ?_
      refine zp_chk fun _ => ?_
      refine zp_ite (fun _ => ?_) fun _ => ?_
      ·
        exact xq_b_M_findLaters_55 (ih) hs
      ·
        exact xq_b_M_findLaters_55 (ih) hs
theorem xq_b_M_findLaters_2 {σ0 : zS} {N : Nat}  : ∀ (n : Nat) (σ : zS) (v1 : Int32), F62 σ0 σ → zp (zb_M_findLaters_2 N n σ v1) (fun r => F62 σ0 r) := by
  intro n
  induction n with
  | zero => intro _ _ _; exact zp_none
  | succ n ih =>
    intro σ v1 hs
    rw [zb_M_findLaters_2]
    refine zp_ite (fun _ => ?_) fun _ => ?_
    ·
      exact zp_some hs
    ·
      refine zp_ite (fun _ => ?_) fun _ => ?_
      ·
        exact zp_some hs
      ·
        exact xq_b_M_findLaters_21 (ih) _ _ _ _ _ hs
theorem xq_f_M_findLaters {σ0 : zS} {N : Nat} {σ : zS}  (hs : F62 σ0 σ) : zp (zf_M_findLaters N σ) (fun r => F62 σ0 r) := by
  unfold zf_M_findLaters
  exact xq_b_M_findLaters_2  _ _ _ hs
theorem xq_f_M_fail {σ0 : zS} {σ : zS} {x1 : Int32}  (hs : F62 σ0 σ) : zp (zf_M_fail σ x1) (fun r => F62 σ0 r) := by
  unfold zf_M_fail
  refine zp_ite (fun _ => ?_) fun _ => ?_
  ·
    exact zp_some hs
  ·
    exact zp_some (F62.u8 (by decide) (F62.u8 (by decide) (F62.u8 (by decide) hs)))
theorem xq_b_M_cannot_14 {σ0 : zS} {σ : zS} {s0 : Int32}  (hs : F62 σ0 σ) : zp (zb_M_cannot_14 σ s0) (fun r => F62 σ0 r) := by
  unfold zb_M_cannot_14
  refine zp_bind (zp_mono (xq_f_M_fail  hs) fun r2 hr2 => ?_)
  exact zp_some hr2
theorem xq_f_M_cannot {σ0 : zS} {σ : zS}  (hs : F62 σ0 σ) : zp (zf_M_cannot σ) (fun r => F62 σ0 r) := by
  unfold zf_M_cannot
  refine zp_ite (fun _ => ?_) fun _ => ?_
  ·
    exact xq_b_M_cannot_14  hs
  ·
    exact xq_b_M_cannot_14  hs
theorem xq_b_M_call_12 {σ0 : zS} {N : Nat}  : ∀ (n : Nat) (σ : zS) (v1 : Int32) (v2 : Int32), F62 σ0 σ → zp (zb_M_call_12 N n σ v1 v2) (fun r => F62 σ0 r) := by
  intro n
  induction n with
  | zero => intro _ _ _ _; exact zp_none
  | succ n ih =>
    intro σ v1 v2 hs
    rw [zb_M_call_12]
    refine zp_ite (fun _ => ?_) fun _ => ?_
    ·
      exact zp_some hs
    ·
      refine zp_chk fun _ => ?_
      refine zp_chk fun _ => ?_
      exact ih _ _ _ (F62.up (by decide) hs)
theorem xq_f_M_call {σ0 : zS} {N : Nat} {σ : zS} {x1 : Int32}  (hs : F62 σ0 σ) : zp (zf_M_call N σ x1) (fun r => F62 σ0 r) := by
  unfold zf_M_call
  refine zp_chk fun _ => ?_
  exact xq_b_M_call_12  _ _ _ _ (F62.up (by decide) hs)
theorem xq_f_M_openBlock {σ0 : zS} {N : Nat} {σ : zS} {x1 : Int32} {x2 : Int32}  (hs : F62 σ0 σ) : zp (zf_M_openBlock N σ x1 x2) (fun r => F62 σ0 r) := by
  unfold zf_M_openBlock
  refine zp_ite (fun _ => ?_) fun _ => ?_
  ·
    refine zp_bind fun r2 _ => ?_
    refine zp_ite (fun _ => ?_) fun _ => ?_
    ·
      refine zp_ite (fun _ => ?_) fun _ => ?_
      ·
        refine zp_bind (zp_mono (xq_f_M_next  hs) fun r5 hr5 => ?_)
        refine zp_chk fun _ => ?_
        refine zp_chk fun _ => ?_
        refine zp_chk fun _ => ?_
        exact zp_some (F62.u8 (by decide) (F62.up (by decide) (F62.up (by decide) (F62.up (by decide) hr5))))
      ·
        refine zp_bind (zp_mono (xq_f_M_fail  hs) fun r9 hr9 => ?_)
        exact zp_some hr9
    ·
      refine zp_bind (zp_mono (xq_f_M_cannot  hs) fun r10 hr10 => ?_)
      exact zp_some hr10
  ·
    exact zp_some hs
theorem xq_b_M_lead_62 {σ0 : zS} {k8 : zS → Int32 → Int32 → Option (zS)} {N : Nat} {σ : zS} {v1 : Int32} {v2 : Int32} (hk8 : ∀ (y0 : zS) (y1 : Int32) (y2 : Int32), F62 σ0 y0 → zp (k8 y0 y1 y2) (fun r => F62 σ0 r)) (hs : F62 σ0 σ) : zp (zb_M_lead_62 k8 N σ v1 v2) (fun r => F62 σ0 r) := by
  unfold zb_M_lead_62
  exact hk8 _ _ _ hs
theorem xq_b_M_lead_8 {σ0 : zS} {N : Nat}  : ∀ (n : Nat) (σ : zS) (v1 : Int32) (v2 : Int32), F62 σ0 σ → zp (zb_M_lead_8 N n σ v1 v2) (fun r => F62 σ0 r) := by
  intro n
  induction n with
  | zero => intro _ _ _ _; exact zp_none
  | succ n ih =>
    intro σ v1 v2 hs
    rw [zb_M_lead_8]
    refine zp_ite (fun _ => ?_) fun _ => ?_
    ·
      exact zp_some hs
    ·
      refine zp_chk fun _ => ?_
      refine zp_ite (fun _ => ?_) fun _ => ?_
      ·
        refine zp_chk fun _ => ?_
        exact xq_b_M_lead_62 (ih) (F62.up (by decide) (F62.u8 (by decide) hs))
      ·
        refine zp_chk fun _ => ?_
        exact xq_b_M_lead_62 (ih) (F62.up (by decide) (F62.u8 (by decide) hs))
theorem xq_f_M_lead {σ0 : zS} {N : Nat} {σ : zS} {x1 : Int32}  (hs : F62 σ0 σ) : zp (zf_M_lead N σ x1) (fun r => F62 σ0 r) := by
  unfold zf_M_lead
  exact xq_b_M_lead_8  _ _ _ _ hs
theorem xq_f_M_wayOf {σ0 : zS} {σ : zS} {x1 : Int32} {x2 : Int32}  (hs : F62 σ0 σ) : zp (zf_M_wayOf σ x1 x2) (fun r => F62 σ0 r.2) := by
  unfold zf_M_wayOf
  refine zp_chk fun _ => ?_
  exact zp_some (F62.up (by decide) hs)
theorem xq_f_M_addStep {σ0 : zS} {N : Nat} {σ : zS} {x1 : Int32} {x2 : Int32}  (hs : F62 σ0 σ) : zp (zf_M_addStep N σ x1 x2) (fun r => F62 σ0 r.2) := by
  unfold zf_M_addStep
  refine zp_chk fun _ => ?_
  refine zp_ite (fun _ => ?_) fun _ => ?_
  ·
    refine zp_chk fun _ => ?_
    refine zp_chk fun _ => ?_
    refine zp_chk fun _ => ?_
    refine zp_chk fun _ => ?_
    refine zp_chk fun _ => ?_
    refine zp_chk fun _ => ?_
    refine zp_bind (zp_mono (xq_f_M_lead  (F62.up (by decide) (F62.up (by decide) (F62.up (by decide) (F62.up (by decide) (F62.up (by decide) (F62.up (by decide) hs))))))) fun r9 hr9 => ?_)
    refine zp_chk fun _ => ?_
    refine zp_chk fun _ => ?_
    refine zp_ite (fun _ => ?_) fun _ => ?_
    ·
      exact zp_some (F62.up (by decide) hr9)
    ·
      refine zp_bind (zp_mono (xq_f_M_wayOf  (F62.up (by decide) hr9)) fun r13 hr13 => ?_)
      exact zp_some (F62.u8 (by decide) hr13)
  ·
    refine zp_bind (zp_mono (xq_f_M_fail  hs) fun r14 hr14 => ?_)
    exact zp_some hr14
theorem xq_f_M_nextIfWell {σ0 : zS} {N : Nat} {σ : zS}  (hs : F62 σ0 σ) : zp (zf_M_nextIfWell N σ) (fun r => F62 σ0 r) := by
  unfold zf_M_nextIfWell
  refine zp_ite (fun _ => ?_) fun _ => ?_
  ·
    exact zp_some hs
  ·
    refine zp_bind (zp_mono (xq_f_M_next  hs) fun r2 hr2 => ?_)
    exact zp_some hr2
theorem xq_f_M_take {σ0 : zS} {N : Nat} {σ : zS} {x1 : Int32}  (hs : F62 σ0 σ) : zp (zf_M_take N σ x1) (fun r => F62 σ0 r) := by
  unfold zf_M_take
  refine zp_ite (fun _ => ?_) fun _ => ?_
  ·
    refine zp_bind fun r2 _ => ?_
    refine zp_ite (fun _ => ?_) fun _ => ?_
    ·
      refine zp_bind (zp_mono (xq_f_M_cannot  hs) fun r4 hr4 => ?_)
      exact zp_some hr4
    ·
      refine zp_bind (zp_mono (xq_f_M_next  hs) fun r5 hr5 => ?_)
      exact zp_some hr5
  ·
    exact zp_some hs
theorem xq_f_M_local {σ0 : zS} {N : Nat} {σ : zS} {x1 : Int32}  (hs : F62 σ0 σ) : zp (zf_M_local N σ x1) (fun r => F62 σ0 r.2) := by
  unfold zf_M_local
  refine zp_bind fun r1 _ => ?_
  refine zp_ite (fun _ => ?_) fun _ => ?_
  ·
    refine zp_ite (fun _ => ?_) fun _ => ?_
    ·
      refine zp_ite (fun _ => ?_) fun _ => ?_
      ·
        refine zp_bind (zp_mono (xq_f_M_call  hs) fun r5 hr5 => ?_)
        exact zp_some (F62.u8 (by decide) hr5)
      ·
        refine zp_bind (zp_mono (xq_f_M_fail  hs) fun r6 hr6 => ?_)
        exact zp_some hr6
    ·
      refine zp_bind (zp_mono (xq_f_M_fail  hs) fun r7 hr7 => ?_)
      exact zp_some hr7
  ·
    exact zp_some hs
theorem xq_b_M_value_53 {σ0 : zS} {N : Nat} {σ : zS} {v2 : Int32}  (hs : F62 σ0 σ) : zp (zb_M_value_53 N σ v2) (fun r => F62 σ0 r.2) := by
  unfold zb_M_value_53
  refine zp_ite (fun _ => ?_) fun _ => ?_
  ·
    exact zp_some hs
  ·
    refine zp_bind (zp_mono (xq_f_M_next  hs) fun r5 hr5 => ?_)
    exact zp_some hr5
theorem xq_b_M_value_41 {σ0 : zS} {N : Nat} {σ : zS} {v2 : Int32}  (hs : F62 σ0 σ) : zp (zb_M_value_41 N σ v2) (fun r => F62 σ0 r.2) := by
  unfold zb_M_value_41
  refine zp_ite (fun _ => ?_) fun _ => ?_
  ·
    exact xq_b_M_value_53  hs
  ·
    refine zp_bind (zp_mono (xq_f_M_cannot  hs) fun r6 hr6 => ?_)
    exact xq_b_M_value_53  hr6
theorem xq_f_M_value {σ0 : zS} {N : Nat} {σ : zS} {x1 : Int32}  (hs : F62 σ0 σ) : zp (zf_M_value N σ x1) (fun r => F62 σ0 r.2) := by
  unfold zf_M_value
  refine zp_ite (fun _ => ?_) fun _ => ?_
  ·
    refine zp_ite (fun _ => ?_) fun _ => ?_
    ·
      exact xq_b_M_value_41  hs
    ·
      refine zp_bind fun r7 _ => ?_
      refine zp_ite (fun _ => ?_) fun _ => ?_
      ·
        exact xq_b_M_value_41  hs
      ·
        refine zp_bind (zp_mono (xq_f_M_local  hs) fun r9 hr9 => ?_)
        exact xq_b_M_value_53  hr9
  ·
    exact zp_some hs
theorem xq_b_M_test_98 {σ0 : zS} {N : Nat} {σ : zS} {v2 : Int32}  (hs : F62 σ0 σ) : zp (zb_M_test_98 N σ v2) (fun r => F62 σ0 r) := by
  unfold zb_M_test_98
  refine zp_bind (zp_mono (xq_f_M_next  hs) fun r9 hr9 => ?_)
  refine zp_bind (zp_mono (xq_f_M_value  hr9) fun r10 hr10 => ?_)
  refine zp_chk fun _ => ?_
  exact zp_some (F62.up (by decide) hr10)
theorem xq_b_M_test_93 {σ0 : zS} {N : Nat} {σ : zS}  (hs : F62 σ0 σ) : zp (zb_M_test_93 N σ) (fun r => F62 σ0 r) := by
  unfold zb_M_test_93
  refine zp_bind (zp_mono (xq_f_M_cannot  hs) fun r7 hr7 => ?_)
  exact zp_some hr7
theorem xq_f_M_test {σ0 : zS} {N : Nat} {σ : zS} {x1 : Int32}  (hs : F62 σ0 σ) : zp (zf_M_test N σ x1) (fun r => F62 σ0 r) := by
  unfold zf_M_test
  refine zp_ite (fun _ => ?_) fun _ => ?_
  ·
    refine zp_bind (zp_mono (xq_f_M_value  hs) fun r2 hr2 => ?_)
    refine zp_chk fun _ => ?_
    refine zp_ite (fun _ => ?_) fun _ => ?_
    ·
      refine zp_chk fun _ => ?_
      refine zp_ite (fun _ => ?_) fun _ => ?_
      ·
        exact xq_b_M_test_93  (F62.up (by decide) (F62.up (by decide) hr2))
      ·
        refine zp_ite (fun _ => ?_) fun _ => ?_
        ·
          exact xq_b_M_test_98  (F62.up (by decide) (F62.up (by decide) hr2))
        ·
          refine zp_ite (fun _ => ?_) fun _ => ?_
          ·
            exact xq_b_M_test_98  (F62.up (by decide) (F62.up (by decide) hr2))
          ·
            refine zp_ite (fun _ => ?_) fun _ => ?_
            ·
              exact xq_b_M_test_98  (F62.up (by decide) (F62.up (by decide) hr2))
            ·
              refine zp_ite (fun _ => ?_) fun _ => ?_
              ·
                exact xq_b_M_test_98  (F62.up (by decide) (F62.up (by decide) hr2))
              ·
                exact xq_b_M_test_93  (F62.up (by decide) (F62.up (by decide) hr2))
    ·
      exact zp_some (F62.up (by decide) hr2)
  ·
    exact zp_some hs
theorem xq_b_M_threadNamed_116 {σ0 : zS} {N : Nat} {σ : zS} {v1 : Int32}  (hs : F62 σ0 σ) : zp (zb_M_threadNamed_116 N σ v1) (fun r => F62 σ0 r.2) := by
  unfold zb_M_threadNamed_116
  refine zp_bind (zp_mono (xq_f_M_next  hs) fun r7 hr7 => ?_)
  exact zp_some hr7
theorem xq_b_M_threadNamed_112 {σ0 : zS} {N : Nat} {σ : zS} {v1 : Int32}  (hs : F62 σ0 σ) : zp (zb_M_threadNamed_112 N σ v1) (fun r => F62 σ0 r.2) := by
  unfold zb_M_threadNamed_112
  exact xq_b_M_threadNamed_116  hs
theorem xq_b_M_threadNamed_52 {σ0 : zS} {N : Nat} {σ : zS} {v1 : Int32}  (hs : F62 σ0 σ) : zp (zb_M_threadNamed_52 N σ v1) (fun r => F62 σ0 r.2) := by
  unfold zb_M_threadNamed_52
  refine zp_ite (fun _ => ?_) fun _ => ?_
  ·
    exact xq_b_M_threadNamed_116  hs
  ·
    refine zp_bind fun r8 _ => ?_
    refine zp_ite (fun _ => ?_) fun _ => ?_
    ·
      exact xq_b_M_threadNamed_112  hs
    ·
      refine zp_bind (zp_mono (xq_f_M_call  hs) fun r10 hr10 => ?_)
      refine zp_chk fun _ => ?_
      exact xq_b_M_threadNamed_112  (F62.u8 (by decide) (F62.up (by decide) hr10))
theorem xq_b_M_threadNamed_46 {σ0 : zS} {N : Nat} {σ : zS}  (hs : F62 σ0 σ) : zp (zb_M_threadNamed_46 N σ) (fun r => F62 σ0 r.2) := by
  unfold zb_M_threadNamed_46
  refine zp_bind (zp_mono (xq_f_M_cannot  hs) fun r4 hr4 => ?_)
  exact zp_some hr4
theorem xq_b_M_threadNamed_25 {σ0 : zS} {N : Nat} {σ : zS} {s0 : Int32}  (hs : F62 σ0 σ) : zp (zb_M_threadNamed_25 N σ s0) (fun r => F62 σ0 r.2) := by
  unfold zb_M_threadNamed_25
  refine zp_ite (fun _ => ?_) fun _ => ?_
  ·
    exact xq_b_M_threadNamed_46  hs
  ·
    refine zp_ite (fun _ => ?_) fun _ => ?_
    ·
      exact xq_b_M_threadNamed_52  hs
    ·
      refine zp_bind fun r12 _ => ?_
      refine zp_ite (fun _ => ?_) fun _ => ?_
      ·
        exact xq_b_M_threadNamed_52  hs
      ·
        exact xq_b_M_threadNamed_46  hs
theorem xq_f_M_threadNamed {σ0 : zS} {N : Nat} {σ : zS}  (hs : F62 σ0 σ) : zp (zf_M_threadNamed N σ) (fun r => F62 σ0 r.2) := by
  unfold zf_M_threadNamed
  refine zp_ite (fun _ => ?_) fun _ => ?_
  ·
    refine zp_ite (fun _ => ?_) fun _ => ?_
    ·
      exact xq_b_M_threadNamed_25  hs
    ·
      refine zp_bind fun r14 _ => ?_
      exact xq_b_M_threadNamed_25  hs
  ·
    exact zp_some hs
theorem xq_b_M_lockNamed_63 {σ0 : zS} {N : Nat} {σ : zS} {v1 : Int32}  (hs : F62 σ0 σ) : zp (zb_M_lockNamed_63 N σ v1) (fun r => F62 σ0 r.2) := by
  unfold zb_M_lockNamed_63
  refine zp_ite (fun _ => ?_) fun _ => ?_
  ·
    exact zp_some hs
  ·
    refine zp_bind (zp_mono (xq_f_M_next  hs) fun r6 hr6 => ?_)
    exact zp_some hr6
theorem xq_b_M_lockNamed_53 {σ0 : zS} {N : Nat} {σ : zS} {v1 : Int32}  (hs : F62 σ0 σ) : zp (zb_M_lockNamed_53 N σ v1) (fun r => F62 σ0 r.2) := by
  unfold zb_M_lockNamed_53
  refine zp_ite (fun _ => ?_) fun _ => ?_
  ·
    exact xq_b_M_lockNamed_63  hs
  ·
    refine zp_bind (zp_mono (xq_f_M_fail  hs) fun r9 hr9 => ?_)
    exact xq_b_M_lockNamed_63  hr9
theorem xq_b_M_lockNamed_46 {σ0 : zS} {N : Nat} {σ : zS} {v1 : Int32}  (hs : F62 σ0 σ) : zp (zb_M_lockNamed_46 N σ v1) (fun r => F62 σ0 r.2) := by
  unfold zb_M_lockNamed_46
  refine zp_bind (zp_mono (xq_f_M_cannot  hs) fun r4 hr4 => ?_)
  exact xq_b_M_lockNamed_63  hr4
theorem xq_b_M_lockNamed_25 {σ0 : zS} {N : Nat} {σ : zS} {s0 : Int32}  (hs : F62 σ0 σ) : zp (zb_M_lockNamed_25 N σ s0) (fun r => F62 σ0 r.2) := by
  unfold zb_M_lockNamed_25
  refine zp_ite (fun _ => ?_) fun _ => ?_
  ·
    exact xq_b_M_lockNamed_46  hs
  ·
    refine zp_ite (fun _ => ?_) fun _ => ?_
    ·
      exact xq_b_M_lockNamed_53  hs
    ·
      refine zp_bind fun r10 _ => ?_
      refine zp_ite (fun _ => ?_) fun _ => ?_
      ·
        exact xq_b_M_lockNamed_53  hs
      ·
        exact xq_b_M_lockNamed_46  hs
theorem xq_f_M_lockNamed {σ0 : zS} {N : Nat} {σ : zS}  (hs : F62 σ0 σ) : zp (zf_M_lockNamed N σ) (fun r => F62 σ0 r.2) := by
  unfold zf_M_lockNamed
  refine zp_ite (fun _ => ?_) fun _ => ?_
  ·
    refine zp_ite (fun _ => ?_) fun _ => ?_
    ·
      exact xq_b_M_lockNamed_25  hs
    ·
      refine zp_bind fun r12 _ => ?_
      exact xq_b_M_lockNamed_25  hs
  ·
    exact zp_some hs
theorem xq_b_M_assign_230 {σ0 : zS} {N : Nat} {σ : zS}  (hs : F62 σ0 σ) : zp (zb_M_assign_230 N σ) (fun r => F62 σ0 r) := by
  unfold zb_M_assign_230
  refine zp_bind (zp_mono (xq_f_M_take  hs) fun r17 hr17 => ?_)
  exact zp_some hr17
theorem xq_b_M_assign_203 {σ0 : zS} {N : Nat} {σ : zS} {v4 : Int32}  (hs : F62 σ0 σ) : zp (zb_M_assign_203 N σ v4) (fun r => F62 σ0 r) := by
  unfold zb_M_assign_203
  refine zp_chk fun _ => ?_
  refine zp_bind (zp_mono (xq_f_M_next  (F62.up (by decide) hs)) fun r22 hr22 => ?_)
  refine zp_bind (zp_mono (xq_f_M_value  hr22) fun r23 hr23 => ?_)
  refine zp_chk fun _ => ?_
  exact xq_b_M_assign_230  (F62.up (by decide) hr23)
theorem xq_b_M_assign_161 {σ0 : zS} {N : Nat} {σ : zS} {v1 : Int32} {v4 : Int32}  (hs : F62 σ0 σ) : zp (zb_M_assign_161 N σ v1 v4) (fun r => F62 σ0 r) := by
  unfold zb_M_assign_161
  refine zp_bind (zp_mono (xq_f_M_value  hs) fun r14 hr14 => ?_)
  refine zp_chk fun _ => ?_
  refine zp_ite (fun _ => ?_) fun _ => ?_
  ·
    exact xq_b_M_assign_230  (F62.up (by decide) hr14)
  ·
    refine zp_ite (fun _ => ?_) fun _ => ?_
    ·
      exact xq_b_M_assign_230  (F62.up (by decide) hr14)
    ·
      refine zp_bind fun r19 _ => ?_
      refine zp_ite (fun _ => ?_) fun _ => ?_
      ·
        exact xq_b_M_assign_203  (F62.up (by decide) hr14)
      ·
        refine zp_bind fun r25 _ => ?_
        refine zp_ite (fun _ => ?_) fun _ => ?_
        ·
          exact xq_b_M_assign_230  (F62.up (by decide) hr14)
        ·
          exact xq_b_M_assign_203  (F62.up (by decide) hr14)
theorem xq_b_M_assign_56 {σ0 : zS} {N : Nat} {σ : zS} {v1 : Int32} {v2 : Int32} {s0 : Int32}  (hs : F62 σ0 σ) : zp (zb_M_assign_56 N σ v1 v2 s0) (fun r => F62 σ0 r) := by
  unfold zb_M_assign_56
  refine zp_bind (zp_mono (xq_f_M_addStep  hs) fun r6 hr6 => ?_)
  refine zp_ite (fun _ => ?_) fun _ => ?_
  ·
    refine zp_bind (zp_mono (xq_f_M_next  hr6) fun r8 hr8 => ?_)
    refine zp_bind (zp_mono (xq_f_M_take  hr8) fun r9 hr9 => ?_)
    refine zp_ite (fun _ => ?_) fun _ => ?_
    ·
      refine zp_chk fun _ => ?_
      refine zp_chk fun _ => ?_
      refine zp_ite (fun _ => ?_) fun _ => ?_
      ·
        exact xq_b_M_assign_161  (F62.up (by decide) (F62.up (by decide) hr9))
      ·
        refine zp_ite (fun _ => ?_) fun _ => ?_
        ·
          exact xq_b_M_assign_161  (F62.up (by decide) (F62.up (by decide) hr9))
        ·
          refine zp_bind fun r28 _ => ?_
          refine zp_ite (fun _ => ?_) fun _ => ?_
          ·
            exact xq_b_M_assign_161  (F62.up (by decide) (F62.up (by decide) hr9))
          ·
            refine zp_chk fun _ => ?_
            refine zp_bind fun r31 _ => ?_
            refine zp_chk fun _ => ?_
            refine zp_bind (zp_mono (xq_f_M_next  (F62.up (by decide) (F62.up (by decide) (F62.up (by decide) (F62.up (by decide) hr9))))) fun r33 hr33 => ?_)
            exact xq_b_M_assign_230  hr33
    ·
      exact zp_some hr9
  ·
    exact zp_some hr6
theorem xq_b_M_assign_36 {σ0 : zS} {N : Nat} {σ : zS} {v1 : Int32} {s0 : Int32}  (hs : F62 σ0 σ) : zp (zb_M_assign_36 N σ v1 s0) (fun r => F62 σ0 r) := by
  unfold zb_M_assign_36
  refine zp_ite (fun _ => ?_) fun _ => ?_
  ·
    refine zp_ite (fun _ => ?_) fun _ => ?_
    ·
      exact xq_b_M_assign_56  hs
    ·
      exact xq_b_M_assign_56  hs
  ·
    exact zp_some hs
theorem xq_b_M_assign_22 {σ0 : zS} {N : Nat} {σ : zS} {v1 : Int32}  (hs : F62 σ0 σ) : zp (zb_M_assign_22 N σ v1) (fun r => F62 σ0 r) := by
  unfold zb_M_assign_22
  refine zp_ite (fun _ => ?_) fun _ => ?_
  ·
    exact xq_b_M_assign_36  hs
  ·
    refine zp_bind (zp_mono (xq_f_M_local  hs) fun r34 hr34 => ?_)
    exact xq_b_M_assign_36  hr34
theorem xq_f_M_assign {σ0 : zS} {N : Nat} {σ : zS}  (hs : F62 σ0 σ) : zp (zf_M_assign N σ) (fun r => F62 σ0 r) := by
  unfold zf_M_assign
  refine zp_bind fun r1 _ => ?_
  refine zp_ite (fun _ => ?_) fun _ => ?_
  ·
    exact xq_b_M_assign_22  hs
  ·
    refine zp_bind fun r35 _ => ?_
    refine zp_ite (fun _ => ?_) fun _ => ?_
    ·
      exact xq_b_M_assign_22  hs
    ·
      refine zp_bind (zp_mono (xq_f_M_cannot  hs) fun r37 hr37 => ?_)
      exact zp_some hr37
theorem xq_b_M_statement_402 {σ0 : zS} {N : Nat} {σ : zS} {v1 : Int32} {s0 : Int32}  (hs : F62 σ0 σ) : zp (zb_M_statement_402 N σ v1 s0) (fun r => F62 σ0 r) := by
  unfold zb_M_statement_402
  refine zp_bind (zp_mono (xq_f_M_addStep  hs) fun r32 hr32 => ?_)
  refine zp_bind (zp_mono (xq_f_M_nextIfWell  hr32) fun r33 hr33 => ?_)
  refine zp_bind (zp_mono (xq_f_M_threadNamed  hr33) fun r34 hr34 => ?_)
  refine zp_chk fun _ => ?_
  refine zp_bind (zp_mono (xq_f_M_take  (F62.up (by decide) hr34)) fun r36 hr36 => ?_)
  exact zp_some hr36
theorem xq_b_M_statement_364 {σ0 : zS} {N : Nat} {σ : zS} {v1 : Int32} {v2 : Int32}  (hs : F62 σ0 σ) : zp (zb_M_statement_364 N σ v1 v2) (fun r => F62 σ0 r) := by
  unfold zb_M_statement_364
  refine zp_bind (zp_mono (xq_f_M_lockNamed  hs) fun r42 hr42 => ?_)
  refine zp_chk fun _ => ?_
  refine zp_bind (zp_mono (xq_f_M_take  (F62.up (by decide) hr42)) fun r44 hr44 => ?_)
  exact zp_some hr44
theorem xq_b_M_statement_153 {σ0 : zS} {N : Nat} {σ : zS} {v2 : Int32}  (hs : F62 σ0 σ) : zp (zb_M_statement_153 N σ v2) (fun r => F62 σ0 r) := by
  unfold zb_M_statement_153
  refine zp_bind (zp_mono (xq_f_M_openBlock  hs) fun r69 hr69 => ?_)
  exact zp_some hr69
theorem xq_f_M_statement {σ0 : zS} {N : Nat} {σ : zS}  (hs : F62 σ0 σ) : zp (zf_M_statement N σ) (fun r => F62 σ0 r) := by
  unfold zf_M_statement
  refine zp_ite (fun _ => ?_) fun _ => ?_
  ·
    refine zp_ite (fun _ => ?_) fun _ => ?_
    ·
      refine zp_ite (fun _ => ?_) fun _ => ?_
      ·
        refine zp_bind (zp_mono (xq_f_M_addStep  hs) fun r64 hr64 => ?_)
        refine zp_bind (zp_mono (xq_f_M_nextIfWell  hr64) fun r65 hr65 => ?_)
        refine zp_bind (zp_mono (xq_f_M_lockNamed  hr65) fun r66 hr66 => ?_)
        refine zp_chk fun _ => ?_
        refine zp_ite (fun _ => ?_) fun _ => ?_
        ·
          exact xq_b_M_statement_153  (F62.up (by decide) hr66)
        ·
          refine zp_chk fun _ => ?_
          exact xq_b_M_statement_153  (F62.u8 (by decide) (F62.up (by decide) hr66))
      ·
        refine zp_ite (fun _ => ?_) fun _ => ?_
        ·
          refine zp_bind (zp_mono (xq_f_M_cannot  hs) fun r63 hr63 => ?_)
          exact zp_some hr63
        ·
          refine zp_ite (fun _ => ?_) fun _ => ?_
          ·
            refine zp_bind (zp_mono (xq_f_M_addStep  hs) fun r59 hr59 => ?_)
            refine zp_bind (zp_mono (xq_f_M_nextIfWell  hr59) fun r60 hr60 => ?_)
            refine zp_bind (zp_mono (xq_f_M_test  hr60) fun r61 hr61 => ?_)
            refine zp_bind (zp_mono (xq_f_M_openBlock  hr61) fun r62 hr62 => ?_)
            exact zp_some hr62
          ·
            refine zp_ite (fun _ => ?_) fun _ => ?_
            ·
              refine zp_bind (zp_mono (xq_f_M_cannot  hs) fun r58 hr58 => ?_)
              exact zp_some hr58
            ·
              refine zp_ite (fun _ => ?_) fun _ => ?_
              ·
                refine zp_bind (zp_mono (xq_f_M_addStep  hs) fun r54 hr54 => ?_)
                refine zp_bind (zp_mono (xq_f_M_nextIfWell  hr54) fun r55 hr55 => ?_)
                refine zp_bind (zp_mono (xq_f_M_test  hr55) fun r56 hr56 => ?_)
                refine zp_bind (zp_mono (xq_f_M_openBlock  hr56) fun r57 hr57 => ?_)
                exact zp_some hr57
              ·
                refine zp_ite (fun _ => ?_) fun _ => ?_
                ·
                  refine zp_bind (zp_mono (xq_f_M_addStep  hs) fun r49 hr49 => ?_)
                  refine zp_bind (zp_mono (xq_f_M_nextIfWell  hr49) fun r50 hr50 => ?_)
                  refine zp_bind (zp_mono (xq_f_M_lockNamed  hr50) fun r51 hr51 => ?_)
                  refine zp_chk fun _ => ?_
                  refine zp_bind (zp_mono (xq_f_M_take  (F62.up (by decide) hr51)) fun r53 hr53 => ?_)
                  exact zp_some hr53
                ·
                  refine zp_ite (fun _ => ?_) fun _ => ?_
                  ·
                    refine zp_bind (zp_mono (xq_f_M_addStep  hs) fun r39 hr39 => ?_)
                    refine zp_bind (zp_mono (xq_f_M_nextIfWell  hr39) fun r40 hr40 => ?_)
                    refine zp_ite (fun _ => ?_) fun _ => ?_
                    ·
                      exact xq_b_M_statement_364  hr40
                    ·
                      refine zp_bind fun r45 _ => ?_
                      refine zp_ite (fun _ => ?_) fun _ => ?_
                      ·
                        exact xq_b_M_statement_364  hr40
                      ·
                        refine zp_chk fun _ => ?_
                        refine zp_bind (zp_mono (xq_f_M_next  (F62.up (by decide) hr40)) fun r48 hr48 => ?_)
                        exact xq_b_M_statement_364  hr48
                  ·
                    refine zp_ite (fun _ => ?_) fun _ => ?_
                    ·
                      refine zp_bind (zp_mono (xq_f_M_cannot  hs) fun r38 hr38 => ?_)
                      exact zp_some hr38
                    ·
                      refine zp_ite (fun _ => ?_) fun _ => ?_
                      ·
                        refine zp_ite (fun _ => ?_) fun _ => ?_
                        ·
                          exact xq_b_M_statement_402  hs
                        ·
                          exact xq_b_M_statement_402  hs
                      ·
                        refine zp_ite (fun _ => ?_) fun _ => ?_
                        ·
                          refine zp_ite (fun _ => ?_) fun _ => ?_
                          ·
                            exact xq_b_M_statement_402  hs
                          ·
                            exact xq_b_M_statement_402  hs
                        ·
                          refine zp_ite (fun _ => ?_) fun _ => ?_
                          ·
                            refine zp_bind (zp_mono (xq_f_M_addStep  hs) fun r27 hr27 => ?_)
                            refine zp_bind (zp_mono (xq_f_M_nextIfWell  hr27) fun r28 hr28 => ?_)
                            refine zp_bind (zp_mono (xq_f_M_test  hr28) fun r29 hr29 => ?_)
                            refine zp_bind (zp_mono (xq_f_M_take  hr29) fun r30 hr30 => ?_)
                            exact zp_some hr30
                          ·
                            refine zp_ite (fun _ => ?_) fun _ => ?_
                            ·
                              refine zp_bind (zp_mono (xq_f_M_addStep  hs) fun r24 hr24 => ?_)
                              refine zp_bind (zp_mono (xq_f_M_nextIfWell  hr24) fun r25 hr25 => ?_)
                              refine zp_bind (zp_mono (xq_f_M_take  hr25) fun r26 hr26 => ?_)
                              exact zp_some hr26
                            ·
                              refine zp_ite (fun _ => ?_) fun _ => ?_
                              ·
                                refine zp_ite (fun _ => ?_) fun _ => ?_
                                ·
                                  refine zp_ite (fun _ => ?_) fun _ => ?_
                                  ·
                                    refine zp_bind (zp_mono (xq_f_M_next  hs) fun r19 hr19 => ?_)
                                    refine zp_bind (zp_mono (xq_f_M_openBlock  hr19) fun r20 hr20 => ?_)
                                    refine zp_chk fun _ => ?_
                                    exact zp_some (F62.u8 (by decide) (F62.up (by decide) (F62.u8 (by decide) hr20)))
                                  ·
                                    refine zp_bind (zp_mono (xq_f_M_fail  hs) fun r22 hr22 => ?_)
                                    exact zp_some hr22
                                ·
                                  refine zp_bind (zp_mono (xq_f_M_cannot  hs) fun r23 hr23 => ?_)
                                  exact zp_some hr23
                              ·
                                refine zp_bind (zp_mono (xq_f_M_cannot  hs) fun r16 hr16 => ?_)
                                exact zp_some hr16
    ·
      refine zp_bind (zp_mono (xq_f_M_cannot  hs) fun r71 hr71 => ?_)
      exact zp_some hr71
  ·
    refine zp_bind (zp_mono (xq_f_M_assign  hs) fun r72 hr72 => ?_)
    exact zp_some hr72
theorem xq_b_M_joinOpen_8 {σ0 : zS} {N : Nat}  : ∀ (n : Nat) (σ : zS) (v1 : Int32) (v2 : Int32), F62 σ0 σ → zp (zb_M_joinOpen_8 N n σ v1 v2) (fun r => F62 σ0 r) := by
  intro n
  induction n with
  | zero => intro _ _ _ _; exact zp_none
  | succ n ih =>
    intro σ v1 v2 hs
    rw [zb_M_joinOpen_8]
    refine zp_chk fun _ => ?_
    refine zp_ite (fun _ => ?_) fun _ => ?_
    ·
      refine zp_chk fun _ => ?_
      exact zp_some (F62.u8 (by decide) (F62.up (by decide) hs))
    ·
      refine zp_chk fun _ => ?_
      exact ih _ _ _ hs
theorem xq_f_M_joinOpen {σ0 : zS} {N : Nat} {σ : zS} {x1 : Int32}  (hs : F62 σ0 σ) : zp (zf_M_joinOpen N σ x1) (fun r => F62 σ0 r) := by
  unfold zf_M_joinOpen
  refine zp_ite (fun _ => ?_) fun _ => ?_
  ·
    exact xq_b_M_joinOpen_8  _ _ _ _ hs
  ·
    exact zp_some hs
theorem xq_b_M_closeBlock_177 {σ0 : zS} {N : Nat} {σ : zS} {v1 : Int32}  (hs : F62 σ0 σ) : zp (zb_M_closeBlock_177 N σ v1) (fun r => F62 σ0 r) := by
  unfold zb_M_closeBlock_177
  refine zp_bind (zp_mono (xq_f_M_next  (F62.u8 (by decide) hs)) fun r7 hr7 => ?_)
  refine zp_chk fun _ => ?_
  refine zp_ite (fun _ => ?_) fun _ => ?_
  ·
    exact zp_some hr7
  ·
    refine zp_bind fun r10 _ => ?_
    refine zp_ite (fun _ => ?_) fun _ => ?_
    ·
      refine zp_chk fun _ => ?_
      refine zp_bind (zp_mono (xq_f_M_wayOf  hr7) fun r13 hr13 => ?_)
      refine zp_bind (zp_mono (xq_f_M_joinOpen  hr13) fun r14 hr14 => ?_)
      exact zp_some hr14
    ·
      refine zp_bind (zp_mono (xq_f_M_next  hr7) fun r15 hr15 => ?_)
      refine zp_chk fun _ => ?_
      refine zp_bind (zp_mono (xq_f_M_wayOf  hr15) fun r17 hr17 => ?_)
      refine zp_chk fun _ => ?_
      refine zp_bind (zp_mono (xq_f_M_openBlock  (F62.u8 (by decide) hr17)) fun r19 hr19 => ?_)
      refine zp_chk fun _ => ?_
      exact zp_some (F62.up (by decide) hr19)
theorem xq_f_M_closeBlock {σ0 : zS} {N : Nat} {σ : zS}  (hs : F62 σ0 σ) : zp (zf_M_closeBlock N σ) (fun r => F62 σ0 r) := by
  unfold zf_M_closeBlock
  refine zp_chk fun _ => ?_
  refine zp_ite (fun _ => ?_) fun _ => ?_
  ·
    refine zp_chk fun _ => ?_
    refine zp_chk fun _ => ?_
    refine zp_bind (zp_mono (xq_f_M_addStep  hs) fun r29 hr29 => ?_)
    refine zp_ite (fun _ => ?_) fun _ => ?_
    ·
      refine zp_chk fun _ => ?_
      refine zp_chk fun _ => ?_
      refine zp_chk fun _ => ?_
      refine zp_chk fun _ => ?_
      refine zp_chk fun _ => ?_
      exact xq_b_M_closeBlock_177  (F62.u8 (by decide) hr29)
    ·
      exact zp_some hr29
  ·
    refine zp_ite (fun _ => ?_) fun _ => ?_
    ·
      exact xq_b_M_closeBlock_177  (F62.u8 (by decide) hs)
    ·
      refine zp_ite (fun _ => ?_) fun _ => ?_
      ·
        exact xq_b_M_closeBlock_177  hs
      ·
        refine zp_ite (fun _ => ?_) fun _ => ?_
        ·
          refine zp_chk fun _ => ?_
          refine zp_bind (zp_mono (xq_f_M_joinOpen  hs) fun r26 hr26 => ?_)
          exact xq_b_M_closeBlock_177  hr26
        ·
          refine zp_ite (fun _ => ?_) fun _ => ?_
          ·
            refine zp_chk fun _ => ?_
            refine zp_bind (zp_mono (xq_f_M_lead  hs) fun r22 hr22 => ?_)
            refine zp_chk fun _ => ?_
            refine zp_bind (zp_mono (xq_f_M_wayOf  hr22) fun r24 hr24 => ?_)
            exact xq_b_M_closeBlock_177  (F62.u8 (by decide) hr24)
          ·
            exact xq_b_M_closeBlock_177  hs
theorem xq_b_M_readThread_235 {σ0 : zS} {k178 : zS → Int32 → Option (zS)} {N : Nat} {σ : zS} {v1 : Int32} {s0 : Int32} {s1 : Int32} (hk178 : ∀ (y0 : zS) (y1 : Int32), F62 σ0 y0 → zp (k178 y0 y1) (fun r => F62 σ0 r)) (hs : F62 σ0 σ) : zp (zb_M_readThread_235 k178 N σ v1 s0 s1) (fun r => F62 σ0 r) := by
  unfold zb_M_readThread_235
  refine zp_chk fun _ => ?_
  exact hk178 _ _ (F62.up (by decide) hs)
theorem xq_b_M_readThread_178 {σ0 : zS} {N : Nat}  : ∀ (n : Nat) (σ : zS) (v1 : Int32), F62 σ0 σ → zp (zb_M_readThread_178 N n σ v1) (fun r => F62 σ0 r) := by
  intro n
  induction n with
  | zero => intro _ _ _; exact zp_none
  | succ n ih =>
    intro σ v1 hs
    rw [zb_M_readThread_178]
    refine zp_chk fun _ => ?_
    refine zp_ite (fun _ => ?_) fun _ => ?_
    ·
      exact zp_some hs
    ·
      refine zp_chk fun _ => ?_
      refine zp_ite (fun _ => ?_) fun _ => ?_
      ·
        refine zp_chk fun _ => ?_
        exact xq_b_M_readThread_235 (ih) hs
      ·
        refine zp_chk fun _ => ?_
        exact xq_b_M_readThread_235 (ih) hs
theorem xq_b_M_readThread_155 {σ0 : zS} {N : Nat} {σ : zS}  (hs : F62 σ0 σ) : zp (zb_M_readThread_155 N σ) (fun r => F62 σ0 r) := by
  unfold zb_M_readThread_155
  refine zp_ite (fun _ => ?_) fun _ => ?_
  ·
    refine zp_chk fun _ => ?_
    refine zp_bind (zp_mono (xq_f_M_lead  hs) fun r13 hr13 => ?_)
    exact xq_b_M_readThread_178  _ _ _ hr13
  ·
    exact zp_some hs
theorem xq_b_M_readThread_118 {σ0 : zS} {N : Nat}  : ∀ (n : Nat) (σ : zS), F62 σ0 σ → zp (zb_M_readThread_118 N n σ) (fun r => F62 σ0 r) := by
  intro n
  induction n with
  | zero => intro _ _; exact zp_none
  | succ n ih =>
    intro σ hs
    rw [zb_M_readThread_118]
    refine zp_ite (fun _ => ?_) fun _ => ?_
    ·
      exact xq_b_M_readThread_155  hs
    ·
      refine zp_ite (fun _ => ?_) fun _ => ?_
      ·
        exact xq_b_M_readThread_155  hs
      ·
        refine zp_bind fun r22 _ => ?_
        refine zp_ite (fun _ => ?_) fun _ => ?_
        ·
          refine zp_bind (zp_mono (xq_f_M_statement  hs) fun r24 hr24 => ?_)
          exact ih _ hr24
        ·
          refine zp_bind (zp_mono (xq_f_M_closeBlock  hs) fun r25 hr25 => ?_)
          exact ih _ hr25
theorem xq_f_M_readThread {σ0 : zS} {N : Nat} {σ : zS}  (hs : F62 σ0 σ) : zp (zf_M_readThread N σ) (fun r => F62 σ0 r) := by
  unfold zf_M_readThread
  refine zp_bind (zp_mono (xq_f_M_next  hs) fun r1 hr1 => ?_)
  refine zp_ite (fun _ => ?_) fun _ => ?_
  ·
    refine zp_bind fun r3 _ => ?_
    refine zp_ite (fun _ => ?_) fun _ => ?_
    ·
      refine zp_ite (fun _ => ?_) fun _ => ?_
      ·
        refine zp_bind (zp_mono (xq_f_M_call  hr1) fun r6 hr6 => ?_)
        refine zp_bind (zp_mono (xq_f_M_next  (F62.u8 (by decide) (F62.u8 (by decide) hr6))) fun r7 hr7 => ?_)
        refine zp_chk fun _ => ?_
        refine zp_bind (zp_mono (xq_f_M_openBlock  (F62.u8 (by decide) (F62.u8 (by decide) (F62.u8 (by decide) (F62.u8 (by decide) (F62.u8 (by decide) (F62.up (by decide) hr7))))))) fun r9 hr9 => ?_)
        exact xq_b_M_readThread_118  _ _ hr9
      ·
        refine zp_bind (zp_mono (xq_f_M_fail  hr1) fun r26 hr26 => ?_)
        exact zp_some hr26
    ·
      refine zp_bind (zp_mono (xq_f_M_fail  hr1) fun r27 hr27 => ?_)
      exact zp_some hr27
  ·
    refine zp_bind (zp_mono (xq_f_M_cannot  hr1) fun r28 hr28 => ?_)
    exact zp_some hr28
theorem xq_f_M_readTold {σ0 : zS} {N : Nat} {σ : zS} {x1 : Int32} {x2 : Int32} {x3 : Int32}  (hs : F62 σ0 σ) : zp (zf_M_readTold N σ x1 x2 x3) (fun r => F62 σ0 r) := by
  unfold zf_M_readTold
  refine zp_ite (fun _ => ?_) fun _ => ?_
  ·
    refine zp_bind fun r2 _ => ?_
    refine zp_ite (fun _ => ?_) fun _ => ?_
    ·
      refine zp_ite (fun _ => ?_) fun _ => ?_
      ·
        refine zp_bind (zp_mono (xq_f_M_call  hs) fun r5 hr5 => ?_)
        refine zp_bind (zp_mono (xq_f_M_next  hr5) fun r6 hr6 => ?_)
        exact zp_some hr6
      ·
        refine zp_bind (zp_mono (xq_f_M_fail  hs) fun r7 hr7 => ?_)
        exact zp_some hr7
    ·
      refine zp_bind (zp_mono (xq_f_M_fail  hs) fun r8 hr8 => ?_)
      exact zp_some hr8
  ·
    refine zp_bind (zp_mono (xq_f_M_cannot  hs) fun r9 hr9 => ?_)
    exact zp_some hr9
theorem xq_b_M_readField_86 {σ0 : zS} {N : Nat} {σ : zS}  (hs : F62 σ0 σ) : zp (zb_M_readField_86 N σ) (fun r => F62 σ0 r) := by
  unfold zb_M_readField_86
  refine zp_bind (zp_mono (xq_f_M_take  (F62.u8 (by decide) hs)) fun r8 hr8 => ?_)
  exact zp_some hr8
theorem xq_f_M_readField {σ0 : zS} {N : Nat} {σ : zS} {x1 : Int32}  (hs : F62 σ0 σ) : zp (zf_M_readField N σ x1) (fun r => F62 σ0 r) := by
  unfold zf_M_readField
  refine zp_bind (zp_mono (xq_f_M_next  hs) fun r1 hr1 => ?_)
  refine zp_bind (zp_mono (xq_f_M_readTold  hr1) fun r2 hr2 => ?_)
  refine zp_ite (fun _ => ?_) fun _ => ?_
  ·
    refine zp_chk fun _ => ?_
    refine zp_chk fun _ => ?_
    refine zp_bind fun r6 _ => ?_
    refine zp_ite (fun _ => ?_) fun _ => ?_
    ·
      exact xq_b_M_readField_86  (F62.up (by decide) (F62.up (by decide) hr2))
    ·
      refine zp_bind (zp_mono (xq_f_M_next  (F62.up (by decide) (F62.up (by decide) hr2))) fun r9 hr9 => ?_)
      refine zp_chk fun _ => ?_
      refine zp_ite (fun _ => ?_) fun _ => ?_
      ·
        refine zp_bind (zp_mono (xq_f_M_next  (F62.up (by decide) hr9)) fun r12 hr12 => ?_)
        exact xq_b_M_readField_86  hr12
      ·
        refine zp_bind (zp_mono (xq_f_M_cannot  (F62.up (by decide) hr9)) fun r13 hr13 => ?_)
        exact zp_some hr13
  ·
    exact zp_some hr2
theorem xq_b_M_read_268 {σ0 : zS} {N : Nat} {σ : zS} {s0 : Int32}  (hs : F62 σ0 σ) : zp (zb_M_read_268 N σ s0) (fun r => F62 σ0 r.2) := by
  unfold zb_M_read_268
  refine zp_chk fun _ => ?_
  refine zp_ite (fun _ => ?_) fun _ => ?_
  ·
    refine zp_bind fun r10 _ => ?_
    exact zp_some (F62.u8 (by decide) (F62.u8 (by decide) hs))
  ·
    exact zp_some (F62.u8 (by decide) (F62.u8 (by decide) hs))
theorem xq_b_M_read_255 {σ0 : zS} {N : Nat} {σ : zS}  (hs : F62 σ0 σ) : zp (zb_M_read_255 N σ) (fun r => F62 σ0 r.2) := by
  unfold zb_M_read_255
  refine zp_ite (fun _ => ?_) fun _ => ?_
  ·
    exact xq_b_M_read_268  hs
  ·
    exact xq_b_M_read_268  hs
theorem xq_b_M_read_244 {σ0 : zS} {N : Nat} {σ : zS}  (hs : F62 σ0 σ) : zp (zb_M_read_244 N σ) (fun r => F62 σ0 r.2) := by
  unfold zb_M_read_244
  refine zp_ite (fun _ => ?_) fun _ => ?_
  ·
    exact xq_b_M_read_255  hs
  ·
    refine zp_bind (zp_mono (xq_f_M_findLaters  hs) fun r11 hr11 => ?_)
    exact xq_b_M_read_255  hr11
theorem xq_b_M_read_226 {σ0 : zS} {N : Nat} {σ : zS}  (hs : F62 σ0 σ) : zp (zb_M_read_226 N σ) (fun r => F62 σ0 r.2) := by
  unfold zb_M_read_226
  refine zp_ite (fun _ => ?_) fun _ => ?_
  ·
    exact xq_b_M_read_244  hs
  ·
    refine zp_ite (fun _ => ?_) fun _ => ?_
    ·
      exact xq_b_M_read_244  hs
    ·
      refine zp_bind (zp_mono (xq_f_M_cannot  hs) fun r13 hr13 => ?_)
      exact xq_b_M_read_244  hr13
theorem xq_b_M_read_204 {σ0 : zS} {N : Nat}  : ∀ (n : Nat) (σ : zS), F62 σ0 σ → zp (zb_M_read_204 N n σ) (fun r => F62 σ0 r.2) := by
  intro n
  induction n with
  | zero => intro _ _; exact zp_none
  | succ n ih =>
    intro σ hs
    rw [zb_M_read_204]
    refine zp_ite (fun _ => ?_) fun _ => ?_
    ·
      exact xq_b_M_read_226  hs
    ·
      refine zp_bind fun r14 _ => ?_
      refine zp_ite (fun _ => ?_) fun _ => ?_
      ·
        exact xq_b_M_read_226  hs
      ·
        refine zp_bind (zp_mono (xq_f_M_readThread  hs) fun r16 hr16 => ?_)
        exact ih _ hr16
theorem xq_b_M_read_180 {σ0 : zS} {k105 : zS → Option (Int32 × zS)} {N : Nat} {σ : zS} {s0 : Int32} (hk105 : ∀ (y0 : zS), F62 σ0 y0 → zp (k105 y0) (fun r => F62 σ0 r.2)) (hs : F62 σ0 σ) : zp (zb_M_read_180 k105 N σ s0) (fun r => F62 σ0 r.2) := by
  unfold zb_M_read_180
  refine zp_bind (zp_mono (xq_f_M_take  (F62.u8 (by decide) hs)) fun r26 hr26 => ?_)
  exact hk105 _ hr26
theorem xq_b_M_read_136 {σ0 : zS} {k105 : zS → Option (Int32 × zS)} {N : Nat} {σ : zS} (hk105 : ∀ (y0 : zS), F62 σ0 y0 → zp (k105 y0) (fun r => F62 σ0 r.2)) (hs : F62 σ0 σ) : zp (zb_M_read_136 k105 N σ) (fun r => F62 σ0 r.2) := by
  unfold zb_M_read_136
  refine zp_bind fun r19 _ => ?_
  refine zp_ite (fun _ => ?_) fun _ => ?_
  ·
    refine zp_bind fun r21 _ => ?_
    refine zp_bind (zp_mono (xq_f_M_readField  hs) fun r22 hr22 => ?_)
    exact hk105 _ hr22
  ·
    refine zp_bind (zp_mono (xq_f_M_next  hs) fun r23 hr23 => ?_)
    refine zp_bind (zp_mono (xq_f_M_readTold  hr23) fun r24 hr24 => ?_)
    refine zp_ite (fun _ => ?_) fun _ => ?_
    ·
      exact xq_b_M_read_180 (hk105) hr24
    ·
      exact xq_b_M_read_180 (hk105) hr24
theorem xq_b_M_read_105 {σ0 : zS} {N : Nat}  : ∀ (n : Nat) (σ : zS), F62 σ0 σ → zp (zb_M_read_105 N n σ) (fun r => F62 σ0 r.2) := by
  intro n
  induction n with
  | zero => intro _ _; exact zp_none
  | succ n ih =>
    intro σ hs
    rw [zb_M_read_105]
    refine zp_ite (fun _ => ?_) fun _ => ?_
    ·
      exact xq_b_M_read_204  _ _ hs
    ·
      refine zp_bind fun r17 _ => ?_
      refine zp_ite (fun _ => ?_) fun _ => ?_
      ·
        exact xq_b_M_read_136 (ih) hs
      ·
        refine zp_bind fun r27 _ => ?_
        refine zp_ite (fun _ => ?_) fun _ => ?_
        ·
          exact xq_b_M_read_136 (ih) hs
        ·
          refine zp_bind fun r29 _ => ?_
          refine zp_ite (fun _ => ?_) fun _ => ?_
          ·
            exact xq_b_M_read_204  _ _ hs
          ·
            exact xq_b_M_read_136 (ih) hs
theorem xv_b_M_forget_2 {σ0 : zS} {N : Nat}  : ∀ (n : Nat) (σ : zS) (v1 : Int32) (v2 : Int32), FU σ0 σ → zp (zb_M_forget_2 N n σ v1 v2) (fun r => FU σ0 r) := by
  intro n
  induction n with
  | zero => intro _ _ _ _; exact zp_none
  | succ n ih =>
    intro σ v1 v2 hs
    rw [zb_M_forget_2]
    refine zp_ite (fun _ => ?_) fun _ => ?_
    ·
      exact zp_some (FU.u8 (by decide) (FU.u8 (by decide) hs))
    ·
      refine zp_chk fun _ => ?_
      exact ih _ _ _ (FU.up (by decide) hs)
theorem xv_f_M_forget {σ0 : zS} {N : Nat} {σ : zS} {x1 : Int32}  (hs : FU σ0 σ) : zp (zf_M_forget N σ x1) (fun r => FU σ0 r) := by
  unfold zf_M_forget
  exact xv_b_M_forget_2  _ _ _ _ hs
theorem xv_b_M_letGo_42 {σ0 : zS} {k2 : zS → Int32 → Int32 → Option (zS)} {N : Nat} {σ : zS} {v1 : Int32} {v2 : Int32} (hk2 : ∀ (y0 : zS) (y1 : Int32) (y2 : Int32), FU σ0 y0 → zp (k2 y0 y1 y2) (fun r => FU σ0 r)) (hs : FU σ0 σ) : zp (zb_M_letGo_42 k2 N σ v1 v2) (fun r => FU σ0 r) := by
  unfold zb_M_letGo_42
  exact hk2 _ _ _ hs
theorem xv_b_M_letGo_2 {σ0 : zS} {N : Nat}  : ∀ (n : Nat) (σ : zS) (v1 : Int32) (v2 : Int32), FU σ0 σ → zp (zb_M_letGo_2 N n σ v1 v2) (fun r => FU σ0 r) := by
  intro n
  induction n with
  | zero => intro _ _ _ _; exact zp_none
  | succ n ih =>
    intro σ v1 v2 hs
    rw [zb_M_letGo_2]
    refine zp_ite (fun _ => ?_) fun _ => ?_
    ·
      exact zp_some hs
    ·
      refine zp_chk fun _ => ?_
      refine zp_ite (fun _ => ?_) fun _ => ?_
      ·
        exact xv_b_M_letGo_42 (ih) hs
      ·
        refine zp_chk fun _ => ?_
        refine zp_chk fun _ => ?_
        exact xv_b_M_letGo_42 (ih) (FU.up (by decide) (FU.up (by decide) hs))
theorem xv_f_M_letGo {σ0 : zS} {N : Nat} {σ : zS} {x1 : Int32}  (hs : FU σ0 σ) : zp (zf_M_letGo N σ x1) (fun r => FU σ0 r) := by
  unfold zf_M_letGo
  exact xv_b_M_letGo_2  _ _ _ _ hs
theorem xv_f_M_goTo {σ0 : zS} {N : Nat} {σ : zS} {x1 : Int32} {x2 : Int32}  (hs : FU σ0 σ) : zp (zf_M_goTo N σ x1 x2) (fun r => FU σ0 r) := by
  unfold zf_M_goTo
  refine zp_bind fun r1 _ => ?_
  refine zp_chk fun _ => ?_
  refine zp_chk fun _ => ?_
  refine zp_ite (fun _ => ?_) fun _ => ?_
  ·
    exact zp_some (FU.up (by decide) hs)
  ·
    refine zp_bind fun r5 _ => ?_
    refine zp_chk fun _ => ?_
    refine zp_bind (zp_mono (xv_f_M_letGo  (FU.up (by decide) (FU.up (by decide) hs))) fun r7 hr7 => ?_)
    exact zp_some hr7
theorem xv_f_M_begin {σ0 : zS} {N : Nat} {σ : zS} {x1 : Int32}  (hs : FU σ0 σ) : zp (zf_M_begin N σ x1) (fun r => FU σ0 r) := by
  unfold zf_M_begin
  refine zp_bind fun r1 _ => ?_
  refine zp_chk fun _ => ?_
  refine zp_bind (zp_mono (xv_f_M_goTo  (FU.up (by decide) hs)) fun r3 hr3 => ?_)
  exact zp_some hr3
theorem xv_b_M_firstState_136 {σ0 : zS} {k51 : zS → Int32 → Option (zS)} {N : Nat} {σ : zS} {v1 : Int32} (hk51 : ∀ (y0 : zS) (y1 : Int32), FU σ0 y0 → zp (k51 y0 y1) (fun r => FU σ0 r)) (hs : FU σ0 σ) : zp (zb_M_firstState_136 k51 N σ v1) (fun r => FU σ0 r) := by
  unfold zb_M_firstState_136
  exact hk51 _ _ hs
theorem xv_b_M_firstState_120 {σ0 : zS} {k63 : zS → Int32 → Int32 → Int32 → Option (zS)} {N : Nat} {σ : zS} {v1 : Int32} {v3 : Int32} {s0 : Int32} (hk63 : ∀ (y0 : zS) (y1 : Int32) (y2 : Int32) (y3 : Int32), FU σ0 y0 → zp (k63 y0 y1 y2 y3) (fun r => FU σ0 r)) (hs : FU σ0 σ) : zp (zb_M_firstState_120 k63 N σ v1 v3 s0) (fun r => FU σ0 r) := by
  unfold zb_M_firstState_120
  exact hk63 _ _ _ _ hs
theorem xv_b_M_firstState_119 {σ0 : zS} {k63 : zS → Int32 → Int32 → Int32 → Option (zS)} {N : Nat} {σ : zS} {v1 : Int32} {v3 : Int32} (hk63 : ∀ (y0 : zS) (y1 : Int32) (y2 : Int32) (y3 : Int32), FU σ0 y0 → zp (k63 y0 y1 y2 y3) (fun r => FU σ0 r)) (hs : FU σ0 σ) : zp (zb_M_firstState_119 k63 N σ v1 v3) (fun r => FU σ0 r) := by
  unfold zb_M_firstState_119
  exact xv_b_M_firstState_120 (hk63) hs
theorem xv_b_M_firstState_115 {σ0 : zS} {k63 : zS → Int32 → Int32 → Int32 → Option (zS)} {N : Nat} {σ : zS} {v1 : Int32} {v3 : Int32} (hk63 : ∀ (y0 : zS) (y1 : Int32) (y2 : Int32) (y3 : Int32), FU σ0 y0 → zp (k63 y0 y1 y2 y3) (fun r => FU σ0 r)) (hs : FU σ0 σ) : zp (zb_M_firstState_115 k63 N σ v1 v3) (fun r => FU σ0 r) := by
  unfold zb_M_firstState_115
  exact xv_b_M_firstState_120 (hk63) hs
theorem xv_b_M_firstState_63 {σ0 : zS} {k51 : zS → Int32 → Option (zS)} {N : Nat} (hk51 : ∀ (y0 : zS) (y1 : Int32), FU σ0 y0 → zp (k51 y0 y1) (fun r => FU σ0 r)) : ∀ (n : Nat) (σ : zS) (v1 : Int32) (v2 : Int32) (v3 : Int32), FU σ0 σ → zp (zb_M_firstState_63 k51 N n σ v1 v2 v3) (fun r => FU σ0 r) := by
  intro n
  induction n with
  | zero => intro _ _ _ _ _; exact zp_none
  | succ n ih =>
    intro σ v1 v2 v3 hs
    rw [zb_M_firstState_63]
    refine zp_ite (fun _ => ?_) fun _ => ?_
    ·
      refine zp_ite (fun _ => ?_) fun _ => ?_
      ·
        exact xv_b_M_firstState_136 (hk51) hs
      ·
        refine zp_bind (zp_mono (xv_f_M_begin  hs) fun r6 hr6 => ?_)
        exact xv_b_M_firstState_136 (hk51) hr6
    ·
      refine zp_ite (fun _ => ?_) fun _ => ?_
      ·
        exact xv_b_M_firstState_115 (ih) hs
      ·
        refine zp_chk fun _ => ?_
        refine zp_ite (fun _ => ?_) fun _ => ?_
        ·
          exact xv_b_M_firstState_119 (ih) hs
        ·
          refine zp_chk fun _ => ?_
          refine zp_ite (fun _ => ?_) fun _ => ?_
          ·
            exact xv_b_M_firstState_119 (ih) hs
          ·
            refine zp_chk fun _ => ?_
            refine zp_ite (fun _ => ?_) fun _ => ?_
            ·
              exact xv_b_M_firstState_119 (ih) hs
            ·
              exact xv_b_M_firstState_115 (ih) hs
theorem xv_b_M_firstState_51 {σ0 : zS} {N : Nat}  : ∀ (n : Nat) (σ : zS) (v1 : Int32), FU σ0 σ → zp (zb_M_firstState_51 N n σ v1) (fun r => FU σ0 r) := by
  intro n
  induction n with
  | zero => intro _ _ _; exact zp_none
  | succ n ih =>
    intro σ v1 hs
    rw [zb_M_firstState_51]
    refine zp_ite (fun _ => ?_) fun _ => ?_
    ·
      exact zp_some hs
    ·
      exact xv_b_M_firstState_63 (ih) _ _ _ _ _ hs
theorem xv_b_M_firstState_23 {σ0 : zS} {N : Nat}  : ∀ (n : Nat) (σ : zS) (v1 : Int32), FU σ0 σ → zp (zb_M_firstState_23 N n σ v1) (fun r => FU σ0 r) := by
  intro n
  induction n with
  | zero => intro _ _ _; exact zp_none
  | succ n ih =>
    intro σ v1 hs
    rw [zb_M_firstState_23]
    refine zp_ite (fun _ => ?_) fun _ => ?_
    ·
      exact xv_b_M_firstState_51  _ _ _ hs
    ·
      refine zp_chk fun _ => ?_
      refine zp_chk fun _ => ?_
      exact ih _ _ (FU.up (by decide) hs)
theorem xv_b_M_firstState_2 {σ0 : zS} {N : Nat}  : ∀ (n : Nat) (σ : zS) (v1 : Int32), FU σ0 σ → zp (zb_M_firstState_2 N n σ v1) (fun r => FU σ0 r) := by
  intro n
  induction n with
  | zero => intro _ _ _; exact zp_none
  | succ n ih =>
    intro σ v1 hs
    rw [zb_M_firstState_2]
    refine zp_ite (fun _ => ?_) fun _ => ?_
    ·
      exact xv_b_M_firstState_23  _ _ _ hs
    ·
      refine zp_chk fun _ => ?_
      exact ih _ _ (FU.up (by decide) hs)
theorem xv_f_M_firstState {σ0 : zS} {N : Nat} {σ : zS}  (hs : FU σ0 σ) : zp (zf_M_firstState N σ) (fun r => FU σ0 r) := by
  unfold zf_M_firstState
  exact xv_b_M_firstState_2  _ _ _ hs
theorem xv_b_M_put_145 {σ0 : zS} {N : Nat}  : ∀ (n : Nat) (σ : zS) (v1 : Int32) (v2 : Int32) (v3 : Int32), FU σ0 σ → zp (zb_M_put_145 N n σ v1 v2 v3) (fun r => FU σ0 r.2) := by
  intro n
  induction n with
  | zero => intro _ _ _ _ _; exact zp_none
  | succ n ih =>
    intro σ v1 v2 v3 hs
    rw [zb_M_put_145]
    refine zp_ite (fun _ => ?_) fun _ => ?_
    ·
      refine zp_chk fun _ => ?_
      refine zp_chk fun _ => ?_
      refine zp_chk fun _ => ?_
      exact zp_some (FU.u8 (by decide) (FU.up (by decide) (FU.up (by decide) hs)))
    ·
      refine zp_chk fun _ => ?_
      refine zp_chk fun _ => ?_
      exact ih _ _ _ _ (FU.up (by decide) hs)
theorem xv_b_M_put_105 {σ0 : zS} {k50 : zS → Int32 → Int32 → Option (Int32 × zS)} {N : Nat} {σ : zS} {v1 : Int32} {v2 : Int32} {v3 : Int32} (hk50 : ∀ (y0 : zS) (y1 : Int32) (y2 : Int32), FU σ0 y0 → zp (k50 y0 y1 y2) (fun r => FU σ0 r.2)) (hs : FU σ0 σ) : zp (zb_M_put_105 k50 N σ v1 v2 v3) (fun r => FU σ0 r.2) := by
  unfold zb_M_put_105
  refine zp_ite (fun _ => ?_) fun _ => ?_
  ·
    refine zp_chk fun _ => ?_
    exact hk50 _ _ _ hs
  ·
    exact zp_some hs
theorem xv_b_M_put_98 {σ0 : zS} {k60 : zS → Int32 → Int32 → Int32 → Int32 → Option (Int32 × zS)} {N : Nat} {σ : zS} {v1 : Int32} {v2 : Int32} {v4 : Int32} {s0 : Int32} (hk60 : ∀ (y0 : zS) (y1 : Int32) (y2 : Int32) (y3 : Int32) (y4 : Int32), FU σ0 y0 → zp (k60 y0 y1 y2 y3 y4) (fun r => FU σ0 r.2)) (hs : FU σ0 σ) : zp (zb_M_put_98 k60 N σ v1 v2 v4 s0) (fun r => FU σ0 r.2) := by
  unfold zb_M_put_98
  exact hk60 _ _ _ _ _ hs
theorem xv_b_M_put_60 {σ0 : zS} {k50 : zS → Int32 → Int32 → Option (Int32 × zS)} {N : Nat} (hk50 : ∀ (y0 : zS) (y1 : Int32) (y2 : Int32), FU σ0 y0 → zp (k50 y0 y1 y2) (fun r => FU σ0 r.2)) : ∀ (n : Nat) (σ : zS) (v1 : Int32) (v2 : Int32) (v3 : Int32) (v4 : Int32), FU σ0 σ → zp (zb_M_put_60 k50 N n σ v1 v2 v3 v4) (fun r => FU σ0 r.2) := by
  intro n
  induction n with
  | zero => intro _ _ _ _ _ _; exact zp_none
  | succ n ih =>
    intro σ v1 v2 v3 v4 hs
    rw [zb_M_put_60]
    refine zp_ite (fun _ => ?_) fun _ => ?_
    ·
      exact xv_b_M_put_105 (hk50) hs
    ·
      refine zp_ite (fun _ => ?_) fun _ => ?_
      ·
        exact xv_b_M_put_105 (hk50) hs
      ·
        refine zp_chk fun _ => ?_
        refine zp_chk fun _ => ?_
        refine zp_ite (fun _ => ?_) fun _ => ?_
        ·
          exact xv_b_M_put_98 (ih) hs
        ·
          exact xv_b_M_put_98 (ih) hs
theorem xv_b_M_put_50 {σ0 : zS} {N : Nat}  : ∀ (n : Nat) (σ : zS) (v1 : Int32) (v2 : Int32), FU σ0 σ → zp (zb_M_put_50 N n σ v1 v2) (fun r => FU σ0 r.2) := by
  intro n
  induction n with
  | zero => intro _ _ _ _; exact zp_none
  | succ n ih =>
    intro σ v1 v2 hs
    rw [zb_M_put_50]
    refine zp_ite (fun _ => ?_) fun _ => ?_
    ·
      refine zp_ite (fun _ => ?_) fun _ => ?_
      ·
        exact xv_b_M_put_145  _ _ _ _ _ hs
      ·
        exact zp_some hs
    ·
      exact xv_b_M_put_60 (ih) _ _ _ _ _ _ hs
theorem xv_b_M_put_5 {σ0 : zS} {N : Nat}  : ∀ (n : Nat) (σ : zS) (v1 : Int32) (v2 : Int32), FU σ0 σ → zp (zb_M_put_5 N n σ v1 v2) (fun r => FU σ0 r.2) := by
  intro n
  induction n with
  | zero => intro _ _ _ _; exact zp_none
  | succ n ih =>
    intro σ v1 v2 hs
    rw [zb_M_put_5]
    refine zp_ite (fun _ => ?_) fun _ => ?_
    ·
      refine zp_chk fun _ => ?_
      exact xv_b_M_put_50  _ _ _ _ hs
    ·
      refine zp_chk fun _ => ?_
      exact ih _ _ _ hs
theorem xv_f_M_put {σ0 : zS} {N : Nat} {σ : zS}  (hs : FU σ0 σ) : zp (zf_M_put N σ) (fun r => FU σ0 r.2) := by
  unfold zf_M_put
  exact xv_b_M_put_5  _ _ _ _ hs
theorem xv_b_M_load_2 {σ0 : zS} {N : Nat}  : ∀ (n : Nat) (σ : zS) (v1 : Int32) (v2 : Int32), FU σ0 σ → zp (zb_M_load_2 N n σ v1 v2) (fun r => FU σ0 r) := by
  intro n
  induction n with
  | zero => intro _ _ _ _; exact zp_none
  | succ n ih =>
    intro σ v1 v2 hs
    rw [zb_M_load_2]
    refine zp_ite (fun _ => ?_) fun _ => ?_
    ·
      exact zp_some hs
    ·
      refine zp_chk fun _ => ?_
      refine zp_chk fun _ => ?_
      exact ih _ _ _ (FU.up (by decide) hs)
theorem xv_f_M_load {σ0 : zS} {N : Nat} {σ : zS} {x1 : Int32}  (hs : FU σ0 σ) : zp (zf_M_load N σ x1) (fun r => FU σ0 r) := by
  unfold zf_M_load
  exact xv_b_M_load_2  _ _ _ _ hs
theorem xv_b_M_lookForRaces_115 {σ0 : zS} {k14 : zS → Int32 → Int32 → Int32 → Option (zS)} {N : Nat} {σ : zS} {v1 : Int32} {v2 : Int32} {v3 : Int32} (hk14 : ∀ (y0 : zS) (y1 : Int32) (y2 : Int32) (y3 : Int32), FU σ0 y0 → zp (k14 y0 y1 y2 y3) (fun r => FU σ0 r)) (hs : FU σ0 σ) : zp (zb_M_lookForRaces_115 k14 N σ v1 v2 v3) (fun r => FU σ0 r) := by
  unfold zb_M_lookForRaces_115
  exact hk14 _ _ _ _ hs
theorem xv_b_M_lookForRaces_14 {σ0 : zS} {k2 : zS → Int32 → Int32 → Option (zS)} {N : Nat} (hk2 : ∀ (y0 : zS) (y1 : Int32) (y2 : Int32), FU σ0 y0 → zp (k2 y0 y1 y2) (fun r => FU σ0 r)) : ∀ (n : Nat) (σ : zS) (v1 : Int32) (v2 : Int32) (v3 : Int32), FU σ0 σ → zp (zb_M_lookForRaces_14 k2 N n σ v1 v2 v3) (fun r => FU σ0 r) := by
  intro n
  induction n with
  | zero => intro _ _ _ _ _; exact zp_none
  | succ n ih =>
    intro σ v1 v2 v3 hs
    rw [zb_M_lookForRaces_14]
    refine zp_ite (fun _ => ?_) fun _ => ?_
    ·
      exact hk2 _ _ _ hs
    ·
      refine zp_bind fun r3 _ => ?_
      refine zp_ite (fun _ => ?_) fun _ => ?_
      ·
        exact xv_b_M_lookForRaces_115 (ih) hs
      ·
        refine zp_bind fun r5 _ => ?_
        refine zp_ite (fun _ => ?_) fun _ => ?_
        ·
          exact xv_b_M_lookForRaces_115 (ih) hs
        ·
          refine zp_bind fun r7 _ => ?_
          refine zp_chk fun _ => ?_
          refine zp_bind fun r9 _ => ?_
          refine zp_chk fun _ => ?_
          refine zp_bind fun r11 _ => ?_
          refine zp_ite (fun _ => ?_) fun _ => ?_
          ·
            exact xv_b_M_lookForRaces_115 (ih) hs
          ·
            refine zp_chk fun _ => ?_
            refine zp_ite (fun _ => ?_) fun _ => ?_
            ·
              exact xv_b_M_lookForRaces_115 (ih) hs
            ·
              refine zp_chk fun _ => ?_
              exact xv_b_M_lookForRaces_115 (ih) (FU.up (by decide) hs)
theorem xv_b_M_lookForRaces_2 {σ0 : zS} {N : Nat}  : ∀ (n : Nat) (σ : zS) (v1 : Int32) (v2 : Int32), FU σ0 σ → zp (zb_M_lookForRaces_2 N n σ v1 v2) (fun r => FU σ0 r) := by
  intro n
  induction n with
  | zero => intro _ _ _ _; exact zp_none
  | succ n ih =>
    intro σ v1 v2 hs
    rw [zb_M_lookForRaces_2]
    refine zp_ite (fun _ => ?_) fun _ => ?_
    ·
      exact zp_some hs
    ·
      exact xv_b_M_lookForRaces_14 (ih) _ _ _ _ _ hs
theorem xv_f_M_lookForRaces {σ0 : zS} {N : Nat} {σ : zS} {x1 : Int32}  (hs : FU σ0 σ) : zp (zf_M_lookForRaces N σ x1) (fun r => FU σ0 r) := by
  unfold zf_M_lookForRaces
  exact xv_b_M_lookForRaces_2  _ _ _ _ hs
theorem xv_f_M_failing {σ0 : zS} {N : Nat} {σ : zS} {x1 : Int32}  (hs : FU σ0 σ) : zp (zf_M_failing N σ x1) (fun r => FU σ0 r) := by
  unfold zf_M_failing
  refine zp_bind fun r1 _ => ?_
  refine zp_chk fun _ => ?_
  refine zp_bind (zp_mono (xv_f_M_letGo  (FU.up (by decide) hs)) fun r3 hr3 => ?_)
  exact zp_some hr3
theorem xv_b_M_wake_70 {σ0 : zS} {k5 : zS → Int32 → Int32 → Int32 → Int32 → Option (zS)} {N : Nat} {σ : zS} {v1 : Int32} {v2 : Int32} {v3 : Int32} {v4 : Int32} (hk5 : ∀ (y0 : zS) (y1 : Int32) (y2 : Int32) (y3 : Int32) (y4 : Int32), FU σ0 y0 → zp (k5 y0 y1 y2 y3 y4) (fun r => FU σ0 r)) (hs : FU σ0 σ) : zp (zb_M_wake_70 k5 N σ v1 v2 v3 v4) (fun r => FU σ0 r) := by
  unfold zb_M_wake_70
  exact hk5 _ _ _ _ _ hs
theorem xv_b_M_wake_5 {σ0 : zS} {N : Nat}  : ∀ (n : Nat) (σ : zS) (v1 : Int32) (v2 : Int32) (v3 : Int32) (v4 : Int32), FU σ0 σ → zp (zb_M_wake_5 N n σ v1 v2 v3 v4) (fun r => FU σ0 r) := by
  intro n
  induction n with
  | zero => intro _ _ _ _ _ _; exact zp_none
  | succ n ih =>
    intro σ v1 v2 v3 v4 hs
    rw [zb_M_wake_5]
    refine zp_ite (fun _ => ?_) fun _ => ?_
    ·
      exact zp_some hs
    ·
      refine zp_ite (fun _ => ?_) fun _ => ?_
      ·
        exact zp_some hs
      ·
        refine zp_bind fun r3 _ => ?_
        refine zp_ite (fun _ => ?_) fun _ => ?_
        ·
          exact xv_b_M_wake_70 (ih) hs
        ·
          refine zp_bind fun r5 _ => ?_
          refine zp_chk fun _ => ?_
          refine zp_chk fun _ => ?_
          refine zp_ite (fun _ => ?_) fun _ => ?_
          ·
            exact xv_b_M_wake_70 (ih) hs
          ·
            refine zp_bind fun r9 _ => ?_
            refine zp_chk fun _ => ?_
            exact xv_b_M_wake_70 (ih) (FU.up (by decide) hs)
theorem xv_f_M_wake {σ0 : zS} {N : Nat} {σ : zS} {x1 : Int32} {x2 : Int32}  (hs : FU σ0 σ) : zp (zf_M_wake N σ x1 x2) (fun r => FU σ0 r) := by
  unfold zf_M_wake
  exact xv_b_M_wake_5  _ _ _ _ _ _ hs
theorem xv_b_M_doStep_618 {σ0 : zS} {N : Nat} {σ : zS} {v1 : Int32} {v2 : Int32}  (hs : FU σ0 σ) : zp (zb_M_doStep_618 N σ v1 v2) (fun r => FU σ0 r) := by
  unfold zb_M_doStep_618
  refine zp_chk fun _ => ?_
  refine zp_bind (zp_mono (xv_f_M_goTo  hs) fun r25 hr25 => ?_)
  exact zp_some hr25
theorem xv_b_M_doStep_563 {σ0 : zS} {N : Nat} {σ : zS} {v1 : Int32} {v2 : Int32} {s0 : Int32} {s1 : Int32}  (hs : FU σ0 σ) : zp (zb_M_doStep_563 N σ v1 v2 s0 s1) (fun r => FU σ0 r) := by
  unfold zb_M_doStep_563
  refine zp_bind (zp_mono (xv_f_M_wake  hs) fun r38 hr38 => ?_)
  exact xv_b_M_doStep_618  hr38
theorem xv_b_M_doStep_462 {σ0 : zS} {N : Nat} {σ : zS} {s0 : Int32} {s1 : Int32}  (hs : FU σ0 σ) : zp (zb_M_doStep_462 N σ s0 s1) (fun r => FU σ0 r) := by
  unfold zb_M_doStep_462
  refine zp_bind (zp_mono (xv_f_M_goTo  hs) fun r56 hr56 => ?_)
  exact zp_some hr56
theorem xv_b_M_doStep_432 {σ0 : zS} {N : Nat} {σ : zS} {v1 : Int32} {v2 : Int32} {s0 : Int32} {s1 : Int32}  (hs : FU σ0 σ) : zp (zb_M_doStep_432 N σ v1 v2 s0 s1) (fun r => FU σ0 r) := by
  unfold zb_M_doStep_432
  refine zp_chk fun _ => ?_
  exact xv_b_M_doStep_618  (FU.up (by decide) hs)
theorem xv_b_M_doStep_335 {σ0 : zS} {N : Nat} {σ : zS} {v1 : Int32} {v2 : Int32} {s0 : Int32}  (hs : FU σ0 σ) : zp (zb_M_doStep_335 N σ v1 v2 s0) (fun r => FU σ0 r) := by
  unfold zb_M_doStep_335
  refine zp_bind fun r76 _ => ?_
  refine zp_chk fun _ => ?_
  refine zp_chk fun _ => ?_
  exact xv_b_M_doStep_618  (FU.up (by decide) hs)
theorem xv_b_M_doStep_139 {σ0 : zS} {N : Nat} {σ : zS} {v1 : Int32} {v2 : Int32} {v3 : Int32} {s0 : Int32}  (hs : FU σ0 σ) : zp (zb_M_doStep_139 N σ v1 v2 v3 s0) (fun r => FU σ0 r) := by
  unfold zb_M_doStep_139
  refine zp_chk fun _ => ?_
  refine zp_ite (fun _ => ?_) fun _ => ?_
  ·
    refine zp_bind fun r86 _ => ?_
    refine zp_chk fun _ => ?_
    refine zp_chk fun _ => ?_
    refine zp_chk fun _ => ?_
    exact xv_b_M_doStep_618  (FU.up (by decide) hs)
  ·
    refine zp_ite (fun _ => ?_) fun _ => ?_
    ·
      refine zp_chk fun _ => ?_
      refine zp_bind fun r84 _ => ?_
      refine zp_chk fun _ => ?_
      exact xv_b_M_doStep_618  (FU.up (by decide) hs)
    ·
      refine zp_ite (fun _ => ?_) fun _ => ?_
      ·
        refine zp_chk fun _ => ?_
        refine zp_bind fun r71 _ => ?_
        refine zp_chk fun _ => ?_
        refine zp_ite (fun _ => ?_) fun _ => ?_
        ·
          refine zp_chk fun _ => ?_
          refine zp_ite (fun _ => ?_) fun _ => ?_
          ·
            exact xv_b_M_doStep_335  hs
          ·
            refine zp_chk fun _ => ?_
            refine zp_bind fun r80 _ => ?_
            exact xv_b_M_doStep_335  hs
        ·
          refine zp_chk fun _ => ?_
          refine zp_bind fun r82 _ => ?_
          exact xv_b_M_doStep_335  hs
      ·
        refine zp_ite (fun _ => ?_) fun _ => ?_
        ·
          refine zp_chk fun _ => ?_
          refine zp_chk fun _ => ?_
          refine zp_chk fun _ => ?_
          exact xv_b_M_doStep_618  (FU.up (by decide) (FU.up (by decide) hs))
        ·
          refine zp_ite (fun _ => ?_) fun _ => ?_
          ·
            refine zp_chk fun _ => ?_
            refine zp_chk fun _ => ?_
            refine zp_chk fun _ => ?_
            refine zp_ite (fun _ => ?_) fun _ => ?_
            ·
              exact xv_b_M_doStep_432  (FU.up (by decide) hs)
            ·
              exact xv_b_M_doStep_432  (FU.up (by decide) hs)
          ·
            refine zp_ite (fun _ => ?_) fun _ => ?_
            ·
              refine zp_bind fun r58 _ => ?_
              refine zp_ite (fun _ => ?_) fun _ => ?_
              ·
                refine zp_chk fun _ => ?_
                exact xv_b_M_doStep_462  hs
              ·
                refine zp_chk fun _ => ?_
                exact xv_b_M_doStep_462  hs
            ·
              refine zp_ite (fun _ => ?_) fun _ => ?_
              ·
                refine zp_bind fun r53 _ => ?_
                refine zp_ite (fun _ => ?_) fun _ => ?_
                ·
                  refine zp_chk fun _ => ?_
                  exact xv_b_M_doStep_462  hs
                ·
                  refine zp_chk fun _ => ?_
                  exact xv_b_M_doStep_462  hs
              ·
                refine zp_ite (fun _ => ?_) fun _ => ?_
                ·
                  refine zp_ite (fun _ => ?_) fun _ => ?_
                  ·
                    refine zp_bind (zp_mono (xv_f_M_failing  hs) fun r45 hr45 => ?_)
                    exact zp_some hr45
                  ·
                    refine zp_bind fun r46 _ => ?_
                    refine zp_chk fun _ => ?_
                    refine zp_chk fun _ => ?_
                    refine zp_chk fun _ => ?_
                    refine zp_chk fun _ => ?_
                    refine zp_bind fun r51 _ => ?_
                    refine zp_chk fun _ => ?_
                    exact zp_some (FU.up (by decide) (FU.up (by decide) (FU.up (by decide) (FU.up (by decide) hs))))
                ·
                  refine zp_ite (fun _ => ?_) fun _ => ?_
                  ·
                    refine zp_ite (fun _ => ?_) fun _ => ?_
                    ·
                      refine zp_chk fun _ => ?_
                      refine zp_ite (fun _ => ?_) fun _ => ?_
                      ·
                        exact xv_b_M_doStep_563  hs
                      ·
                        exact xv_b_M_doStep_563  hs
                    ·
                      refine zp_bind (zp_mono (xv_f_M_failing  hs) fun r43 hr43 => ?_)
                      exact zp_some hr43
                  ·
                    refine zp_ite (fun _ => ?_) fun _ => ?_
                    ·
                      refine zp_ite (fun _ => ?_) fun _ => ?_
                      ·
                        refine zp_chk fun _ => ?_
                        refine zp_ite (fun _ => ?_) fun _ => ?_
                        ·
                          exact xv_b_M_doStep_563  hs
                        ·
                          exact xv_b_M_doStep_563  hs
                      ·
                        refine zp_bind (zp_mono (xv_f_M_failing  hs) fun r39 hr39 => ?_)
                        exact zp_some hr39
                    ·
                      refine zp_ite (fun _ => ?_) fun _ => ?_
                      ·
                        refine zp_bind fun r31 _ => ?_
                        refine zp_ite (fun _ => ?_) fun _ => ?_
                        ·
                          refine zp_bind (zp_mono (xv_f_M_begin  hs) fun r33 hr33 => ?_)
                          exact xv_b_M_doStep_618  hr33
                        ·
                          refine zp_bind (zp_mono (xv_f_M_failing  hs) fun r34 hr34 => ?_)
                          exact zp_some hr34
                      ·
                        refine zp_ite (fun _ => ?_) fun _ => ?_
                        ·
                          exact xv_b_M_doStep_618  hs
                        ·
                          refine zp_ite (fun _ => ?_) fun _ => ?_
                          ·
                            refine zp_bind fun r28 _ => ?_
                            refine zp_ite (fun _ => ?_) fun _ => ?_
                            ·
                              exact xv_b_M_doStep_618  hs
                            ·
                              refine zp_bind (zp_mono (xv_f_M_failing  hs) fun r30 hr30 => ?_)
                              exact zp_some hr30
                          ·
                            refine zp_ite (fun _ => ?_) fun _ => ?_
                            ·
                              refine zp_chk fun _ => ?_
                              refine zp_bind (zp_mono (xv_f_M_goTo  hs) fun r27 hr27 => ?_)
                              exact zp_some hr27
                            ·
                              exact xv_b_M_doStep_618  hs
theorem xv_b_M_doStep_138 {σ0 : zS} {N : Nat} {σ : zS} {v1 : Int32} {v2 : Int32} {v3 : Int32}  (hs : FU σ0 σ) : zp (zb_M_doStep_138 N σ v1 v2 v3) (fun r => FU σ0 r) := by
  unfold zb_M_doStep_138
  exact xv_b_M_doStep_139  hs
theorem xv_f_M_doStep {σ0 : zS} {N : Nat} {σ : zS} {x1 : Int32}  (hs : FU σ0 σ) : zp (zf_M_doStep N σ x1) (fun r => FU σ0 r) := by
  unfold zf_M_doStep
  refine zp_bind fun r1 _ => ?_
  refine zp_chk fun _ => ?_
  refine zp_chk fun _ => ?_
  refine zp_bind fun r4 _ => ?_
  refine zp_ite (fun _ => ?_) fun _ => ?_
  ·
    refine zp_chk fun _ => ?_
    refine zp_bind fun r7 _ => ?_
    refine zp_ite (fun _ => ?_) fun _ => ?_
    ·
      exact xv_b_M_doStep_138  hs
    ·
      refine zp_chk fun _ => ?_
      refine zp_ite (fun _ => ?_) fun _ => ?_
      ·
        exact xv_b_M_doStep_138  hs
      ·
        exact xv_b_M_doStep_139  hs
  ·
    refine zp_chk fun _ => ?_
    refine zp_bind fun r93 _ => ?_
    refine zp_chk fun _ => ?_
    refine zp_chk fun _ => ?_
    refine zp_bind fun r96 _ => ?_
    refine zp_chk fun _ => ?_
    refine zp_bind fun r98 _ => ?_
    refine zp_chk fun _ => ?_
    refine zp_chk fun _ => ?_
    refine zp_bind (zp_mono (xv_f_M_goTo  (FU.up (by decide) (FU.up (by decide) (FU.up (by decide) (FU.up (by decide) hs))))) fun r101 hr101 => ?_)
    exact zp_some hr101
theorem xv_b_M_run_275 {σ0 : zS} {k68 : zS → Int32 → Option (Int32 × zS)} {N : Nat} {σ : zS} {v2 : Int32} (hk68 : ∀ (y0 : zS) (y1 : Int32), FU σ0 y0 → zp (k68 y0 y1) (fun r => FU σ0 r.2)) (hs : FU σ0 σ) : zp (zb_M_run_275 k68 N σ v2) (fun r => FU σ0 r.2) := by
  unfold zb_M_run_275
  exact hk68 _ _ hs
theorem xv_b_M_run_250 {σ0 : zS} {k68 : zS → Int32 → Option (Int32 × zS)} {N : Nat} {σ : zS} {v2 : Int32} {v4 : Int32} (hk68 : ∀ (y0 : zS) (y1 : Int32), FU σ0 y0 → zp (k68 y0 y1) (fun r => FU σ0 r.2)) (hs : FU σ0 σ) : zp (zb_M_run_250 k68 N σ v2 v4) (fun r => FU σ0 r.2) := by
  unfold zb_M_run_250
  refine zp_ite (fun _ => ?_) fun _ => ?_
  ·
    exact xv_b_M_run_275 (hk68) hs
  ·
    refine zp_chk fun _ => ?_
    exact xv_b_M_run_275 (hk68) (FU.u8 (by decide) (FU.up (by decide) hs))
theorem xv_b_M_run_242 {σ0 : zS} {k208 : zS → Int32 → Int32 → Int32 → Option (Int32 × zS)} {N : Nat} {σ : zS} {v2 : Int32} {v5 : Int32} {s0 : Int32} (hk208 : ∀ (y0 : zS) (y1 : Int32) (y2 : Int32) (y3 : Int32), FU σ0 y0 → zp (k208 y0 y1 y2 y3) (fun r => FU σ0 r.2)) (hs : FU σ0 σ) : zp (zb_M_run_242 k208 N σ v2 v5 s0) (fun r => FU σ0 r.2) := by
  unfold zb_M_run_242
  exact hk208 _ _ _ _ hs
theorem xv_b_M_run_208 {σ0 : zS} {k68 : zS → Int32 → Option (Int32 × zS)} {N : Nat} (hk68 : ∀ (y0 : zS) (y1 : Int32), FU σ0 y0 → zp (k68 y0 y1) (fun r => FU σ0 r.2)) : ∀ (n : Nat) (σ : zS) (v2 : Int32) (v4 : Int32) (v5 : Int32), FU σ0 σ → zp (zb_M_run_208 k68 N n σ v2 v4 v5) (fun r => FU σ0 r.2) := by
  intro n
  induction n with
  | zero => intro _ _ _ _ _; exact zp_none
  | succ n ih =>
    intro σ v2 v4 v5 hs
    rw [zb_M_run_208]
    refine zp_ite (fun _ => ?_) fun _ => ?_
    ·
      exact xv_b_M_run_250 (hk68) hs
    ·
      refine zp_ite (fun _ => ?_) fun _ => ?_
      ·
        exact xv_b_M_run_250 (hk68) hs
      ·
        refine zp_chk fun _ => ?_
        refine zp_bind fun r19 _ => ?_
        refine zp_ite (fun _ => ?_) fun _ => ?_
        ·
          exact xv_b_M_run_242 (ih) hs
        ·
          exact xv_b_M_run_242 (ih) hs
theorem xv_b_M_run_197 {σ0 : zS} {k68 : zS → Int32 → Option (Int32 × zS)} {N : Nat} {σ : zS} {v2 : Int32} {v3 : Int32} {s0 : Int32} {s1 : Int32} (hk68 : ∀ (y0 : zS) (y1 : Int32), FU σ0 y0 → zp (k68 y0 y1) (fun r => FU σ0 r.2)) (hs : FU σ0 σ) : zp (zb_M_run_197 k68 N σ v2 v3 s0 s1) (fun r => FU σ0 r.2) := by
  unfold zb_M_run_197
  refine zp_chk fun _ => ?_
  refine zp_ite (fun _ => ?_) fun _ => ?_
  ·
    exact xv_b_M_run_275 (hk68) (FU.up (by decide) hs)
  ·
    exact xv_b_M_run_208 (hk68) _ _ _ _ _ (FU.up (by decide) hs)
theorem xv_b_M_run_169 {σ0 : zS} {k91 : zS → Int32 → Int32 → Int32 → Option (Int32 × zS)} {N : Nat} {σ : zS} {v2 : Int32} {v3 : Int32} {v4 : Int32} (hk91 : ∀ (y0 : zS) (y1 : Int32) (y2 : Int32) (y3 : Int32), FU σ0 y0 → zp (k91 y0 y1 y2 y3) (fun r => FU σ0 r.2)) (hs : FU σ0 σ) : zp (zb_M_run_169 k91 N σ v2 v3 v4) (fun r => FU σ0 r.2) := by
  unfold zb_M_run_169
  exact hk91 _ _ _ _ hs
theorem xv_b_M_run_91 {σ0 : zS} {k68 : zS → Int32 → Option (Int32 × zS)} {N : Nat} (hk68 : ∀ (y0 : zS) (y1 : Int32), FU σ0 y0 → zp (k68 y0 y1) (fun r => FU σ0 r.2)) : ∀ (n : Nat) (σ : zS) (v2 : Int32) (v3 : Int32) (v4 : Int32), FU σ0 σ → zp (zb_M_run_91 k68 N n σ v2 v3 v4) (fun r => FU σ0 r.2) := by
  intro n
  induction n with
  | zero => intro _ _ _ _ _; exact zp_none
  | succ n ih =>
    intro σ v2 v3 v4 hs
    rw [zb_M_run_91]
    refine zp_ite (fun _ => ?_) fun _ => ?_
    ·
      refine zp_bind (zp_mono (xv_f_M_load  hs) fun r10 hr10 => ?_)
      refine zp_ite (fun _ => ?_) fun _ => ?_
      ·
        exact xv_b_M_run_197 (hk68) hr10
      ·
        refine zp_bind fun r21 _ => ?_
        exact xv_b_M_run_197 (hk68) hr10
    ·
      refine zp_bind (zp_mono (xv_f_M_load  hs) fun r22 hr22 => ?_)
      refine zp_bind fun r23 _ => ?_
      refine zp_ite (fun _ => ?_) fun _ => ?_
      ·
        exact xv_b_M_run_169 (ih) hr22
      ·
        refine zp_bind (zp_mono (xv_f_M_doStep  hr22) fun r25 hr25 => ?_)
        refine zp_bind (zp_mono (xv_f_M_put  hr25) fun r26 hr26 => ?_)
        refine zp_ite (fun _ => ?_) fun _ => ?_
        ·
          refine zp_ite (fun _ => ?_) fun _ => ?_
          ·
            exact xv_b_M_run_169 (ih) hr26
          ·
            refine zp_chk fun _ => ?_
            refine zp_chk fun _ => ?_
            exact xv_b_M_run_169 (ih) (FU.up (by decide) (FU.up (by decide) hr26))
        ·
          exact zp_some hr26
theorem xv_b_M_run_68 {σ0 : zS} {N : Nat}  : ∀ (n : Nat) (σ : zS) (v2 : Int32), FU σ0 σ → zp (zb_M_run_68 N n σ v2) (fun r => FU σ0 r.2) := by
  intro n
  induction n with
  | zero => intro _ _ _; exact zp_none
  | succ n ih =>
    intro σ v2 hs
    rw [zb_M_run_68]
    refine zp_ite (fun _ => ?_) fun _ => ?_
    ·
      exact zp_some (FU.u8 (by decide) (FU.u8 (by decide) hs))
    ·
      refine zp_bind (zp_mono (xv_f_M_load  hs) fun r7 hr7 => ?_)
      refine zp_bind (zp_mono (xv_f_M_lookForRaces  hr7) fun r8 hr8 => ?_)
      exact xv_b_M_run_91 (ih) _ _ _ _ _ hr8
theorem xv_b_M_run_37 {σ0 : zS} {N : Nat}  : ∀ (n : Nat) (σ : zS) (v1 : Int32), FU σ0 σ → zp (zb_M_run_37 N n σ v1) (fun r => FU σ0 r.2) := by
  intro n
  induction n with
  | zero => intro _ _ _; exact zp_none
  | succ n ih =>
    intro σ v1 hs
    rw [zb_M_run_37]
    refine zp_ite (fun _ => ?_) fun _ => ?_
    ·
      refine zp_bind (zp_mono (xv_f_M_firstState  hs) fun r4 hr4 => ?_)
      refine zp_bind (zp_mono (xv_f_M_put  hr4) fun r5 hr5 => ?_)
      exact xv_b_M_run_68  _ _ _ hr5
    ·
      refine zp_chk fun _ => ?_
      exact ih _ _ (FU.up (by decide) hs)
theorem m_read62 {N : Nat} {μ : zS} : zp (zf_M_read N μ) (fun s => s.2 82 62 = -1) := by
  have go : ∀ (n : Nat) (ν : zS) (v : Int32), zp (zb_M_read_20 N n ν v) (fun s => s.2 82 62 = -1) := by
    intro n
    induction n with
    | zero => intro _ _; exact zp_none
    | succ n ih =>
      intro ν v
      rw [zb_M_read_20]
      exact zp_ite (fun _ => zp_bind (zp_mono (xq_f_M_next (σ0 := ν) (by unfold F62; rw [zx_up_same, zu_eq])) fun r2 h2 => xq_b_M_read_105 _ _ h2)) fun _ => zp_chk fun _ => zp_chk fun _ => ih _ _
  unfold zf_M_read
  exact go _ _ _
theorem m_run62 {N : Nat} {μ : zS} (h : ¬ μ 82 21 = 0) : zp (zf_M_run N μ) (fun s => s.2 82 62 = -1) := by
  unfold zf_M_run
  refine zp_ite (fun _ => zp_bind (zp_mono (xv_f_M_forget FU.rfl') fun r2 h2 => ?_)) fun q => absurd h q
  refine zp_mono (xv_b_M_run_37 (σ0 := r2) _ _ _ (FU.u8 (by decide) FU.rfl')) fun s hs => ?_
  rw [hs.1, h2.1, zx_up_same, zu_eq]
theorem st_read16 {N : Nat} {σ : zS} {τ : zT} : zp (zf_X_read N σ τ) (fun r => r.2.1 2 16 = -1) := by
  unfold zf_X_read
  refine zp_bind fun r1 _ => ?_
  have A : ∀ s0 : Int32, zp (zb_X_read_40 N (zx_up (zx_up r1.1 2 11 0) 2 12 (r1.1 17 6)) r1.2 s0) (fun r => r.2.1 2 16 = -1) := by
    intro s0
    unfold zb_X_read_40 zf_Judge_forget
    refine zp_chk fun _ => zp_bind (zp_some (zp_bind (zp_mono y_fill fun r5 h5 => ?_)))
    have P : r5 2 16 = -1 := by
      rw [h5 2 (by decide), zu_other (by decide), zx_up_same, zu_eq]
    exact zp_ite (fun _ => zp_some P) fun _ => zp_some P
  exact zp_ite (fun y => A 0) fun y => A 1
theorem st_readT {N : Nat} {σ : zS} {τ : zT} : zp (zf_X_read N σ τ) (fun r => ((r.2.1 2 13 = 1 → ∀ b, b < 4 → SPB r.2.1 b) ∧ r.2.1 2 14 = 0 ∧ r.2.1 2 15 = 0) ∧ r.2.1 2 16 = -1) := zp_and st_read9 st_read16
theorem c_run16 {N : Nat} {σ : zS} : zp (zf_X_run N σ) (fun r => (σ 2 13 = 0 ∧ r.2 = σ) ∨ (¬ σ 2 13 = 0 ∧ r.2 2 16 = -1)) := by
  by_cases h : σ 2 13 = 0
  · unfold zf_X_run
    exact zp_ite (fun q => absurd h q) fun _ => zp_some (Or.inl ⟨h, rfl⟩)
  have fin : ∀ r : zS, r 2 16 = -1 → zp (zb_X_run_57 N r) (fun r => (σ 2 13 = 0 ∧ r.2 = σ) ∨ (¬ σ 2 13 = 0 ∧ r.2 2 16 = -1)) := fun r e => by
    unfold zb_X_run_57
    exact zp_ite (fun _ => zp_some (Or.inr ⟨h, e⟩)) fun _ => zp_some (Or.inr ⟨h, e⟩)
  unfold zf_X_run
  refine zp_ite (fun _ => zp_ite (fun _ => fin _ (by rw [zx_up_same, zu_eq])) fun _ => ?_) fun q => absurd h q
  refine zp_bind (zp_mono (xt_f_Space_explore (σ0 := zx_up (zx_up σ 2 16 (-1)) 2 14 1) FTT.rfl') fun r4 h4 => zp_chk fun _ => ?_)
  have e4 : r4.2 2 16 = -1 := by rw [h4.1, zx_up_same, zu_ne (by decide), zx_up_same, zu_eq]
  have e5 : (zx_up r4.2 2 15 r4.1) 2 16 = -1 := by
    rw [zx_up_same, zu_ne (by decide)]
    exact e4
  exact zp_ite (fun _ => fin _ e5) fun _ => zp_bind (zp_mono (xt_f_Findings_gather (σ0 := zx_up r4.2 2 15 r4.1) FTT.rfl') fun r7 h7 => fin _ (h7.1.trans e5))
