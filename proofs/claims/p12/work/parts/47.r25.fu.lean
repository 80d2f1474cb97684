-- both answer alike
set_option maxRecDepth 2000
def F17 (σ0 σ : zS) : Prop := σ 17 = σ0 17 ∧ σ 18 = σ0 18 ∧ σ 20 = σ0 20 ∧ σ 21 = σ0 21
theorem F17.up {σ0 σ : zS} {p i : Nat} {x : Int32} (hp : 17 ≠ p ∧ 18 ≠ p ∧ 20 ≠ p ∧ 21 ≠ p) (h : F17 σ0 σ) : F17 σ0 (zx_up σ p i x) := ⟨by rw [zu_other hp.1]; exact h.1, by rw [zu_other hp.2.1]; exact h.2.1, by rw [zu_other hp.2.2.1]; exact h.2.2.1, by rw [zu_other hp.2.2.2]; exact h.2.2.2⟩
theorem wg_f_Weaver_enter {σ0 : zS} {σ : zS} {x1 : Int32} {x2 : Int32}  (hs : F17 σ0 σ) : zp (zf_Weaver_enter σ x1 x2) (fun r => F17 σ0 r) := by
  unfold zf_Weaver_enter
  refine zp_ite (fun _ => ?_) fun _ => ?_
  ·
    exact zp_some hs
  ·
    refine zp_ite (fun _ => ?_) fun _ => ?_
    ·
      refine zp_chk fun _ => ?_
      refine zp_chk fun _ => ?_
      refine zp_chk fun _ => ?_
      refine zp_chk fun _ => ?_
      refine zp_chk fun _ => ?_
      refine zp_ite (fun _ => ?_) fun _ => ?_
      ·
        refine zp_ite (fun _ => ?_) fun _ => ?_
        ·
          exact zp_some (F17.up (by decide) (F17.up (by decide) (F17.up (by decide) (F17.up (by decide) (F17.up (by decide) (F17.up (by decide) hs))))))
        ·
          exact zp_some (F17.up (by decide) (F17.up (by decide) (F17.up (by decide) (F17.up (by decide) (F17.up (by decide) (F17.up (by decide) (F17.up (by decide) (F17.up (by decide) hs))))))))
      ·
        exact zp_some (F17.up (by decide) (F17.up (by decide) (F17.up (by decide) (F17.up (by decide) (F17.up (by decide) (F17.up (by decide) (F17.up (by decide) hs)))))))
    ·
      exact zp_some hs
theorem wg_b_Weaver_closeOpen_70 {σ0 : zS} {k2 : zS → Int32 → Int32 → Option (zS)} {N : Nat} {σ : zS} {v1 : Int32} {v2 : Int32} (hk2 : ∀ (y0 : zS) (y1 : Int32) (y2 : Int32), F17 σ0 y0 → zp (k2 y0 y1 y2) (fun r => F17 σ0 r)) (hs : F17 σ0 σ) : zp (zb_Weaver_closeOpen_70 k2 N σ v1 v2) (fun r => F17 σ0 r) := by
  unfold zb_Weaver_closeOpen_70
  exact hk2 _ _ _ hs
theorem wg_b_Weaver_closeOpen_49 {σ0 : zS} {k2 : zS → Int32 → Int32 → Option (zS)} {N : Nat} {σ : zS} {v1 : Int32} {v2 : Int32} {v3 : Int32} (hk2 : ∀ (y0 : zS) (y1 : Int32) (y2 : Int32), F17 σ0 y0 → zp (k2 y0 y1 y2) (fun r => F17 σ0 r)) (hs : F17 σ0 σ) : zp (zb_Weaver_closeOpen_49 k2 N σ v1 v2 v3) (fun r => F17 σ0 r) := by
  unfold zb_Weaver_closeOpen_49
  refine zp_ite (fun _ => ?_) fun _ => ?_
  ·
    exact wg_b_Weaver_closeOpen_70 (hk2) hs
  ·
    refine zp_chk fun _ => ?_
    exact wg_b_Weaver_closeOpen_70 (hk2) (F17.up (by decide) hs)
theorem wg_b_Weaver_closeOpen_2 {σ0 : zS} {N : Nat}  : ∀ (n : Nat) (σ : zS) (v1 : Int32) (v2 : Int32), F17 σ0 σ → zp (zb_Weaver_closeOpen_2 N n σ v1 v2) (fun r => F17 σ0 r) := by
  intro n
  induction n with
  | zero => intro _ _ _ _; exact zp_none
  | succ n ih =>
    intro σ v1 v2 hs
    rw [zb_Weaver_closeOpen_2]
    refine zp_ite (fun _ => ?_) fun _ => ?_
    ·
      exact zp_some (F17.up (by decide) (F17.up (by decide) hs))
    ·
      refine zp_ite (fun _ => ?_) fun _ => ?_
      ·
        exact wg_b_Weaver_closeOpen_70 (ih) hs
      ·
        refine zp_ite (fun _ => ?_) fun _ => ?_
        ·
          exact wg_b_Weaver_closeOpen_70 (ih) hs
        ·
          refine zp_ite (fun _ => ?_) fun _ => ?_
          ·
            exact wg_b_Weaver_closeOpen_49 (ih) hs
          ·
            refine zp_chk fun _ => ?_
            exact wg_b_Weaver_closeOpen_49 (ih) (F17.up (by decide) hs)
theorem wg_f_Weaver_closeOpen {σ0 : zS} {N : Nat} {σ : zS} {x1 : Int32}  (hs : F17 σ0 σ) : zp (zf_Weaver_closeOpen N σ x1) (fun r => F17 σ0 r) := by
  unfold zf_Weaver_closeOpen
  exact wg_b_Weaver_closeOpen_2  _ _ _ _ hs
theorem wg_f_Program_addStep {σ0 : zS} {σ : zS} {x1 : Int32} {x2 : Int32} {x3 : Int32} {x4 : Int32} {x5 : Int32}  (hs : F17 σ0 σ) : zp (zf_Program_addStep σ x1 x2 x3 x4 x5) (fun r => F17 σ0 r.2) := by
  unfold zf_Program_addStep
  refine zp_ite (fun _ => ?_) fun _ => ?_
  ·
    exact zp_some hs
  ·
    refine zp_ite (fun _ => ?_) fun _ => ?_
    ·
      exact zp_some hs
    ·
      refine zp_chk fun _ => ?_
      refine zp_ite (fun _ => ?_) fun _ => ?_
      ·
        exact zp_some hs
      ·
        refine zp_chk fun _ => ?_
        refine zp_ite (fun _ => ?_) fun _ => ?_
        ·
          refine zp_chk fun _ => ?_
          refine zp_chk fun _ => ?_
          refine zp_chk fun _ => ?_
          refine zp_chk fun _ => ?_
          refine zp_chk fun _ => ?_
          refine zp_chk fun _ => ?_
          refine zp_chk fun _ => ?_
          refine zp_chk fun _ => ?_
          refine zp_chk fun _ => ?_
          exact zp_some (F17.up (by decide) (F17.up (by decide) (F17.up (by decide) (F17.up (by decide) (F17.up (by decide) (F17.up (by decide) (F17.up (by decide) (F17.up (by decide) hs))))))))
        ·
          exact zp_some hs
theorem wg_b_Weaver_emit_59 {σ0 : zS} {N : Nat} {σ : zS} {s0 : Int32}  (hs : F17 σ0 σ) : zp (zb_Weaver_emit_59 N σ s0) (fun r => F17 σ0 r) := by
  unfold zb_Weaver_emit_59
  exact zp_some (F17.up (by decide) hs)
theorem wg_f_Weaver_emit {σ0 : zS} {N : Nat} {σ : zS} {x1 : Int32} {x2 : Int32}  (hs : F17 σ0 σ) : zp (zf_Weaver_emit N σ x1 x2) (fun r => F17 σ0 r) := by
  unfold zf_Weaver_emit
  refine zp_bind fun r1 _ => ?_
  refine zp_bind (zp_mono (wg_f_Weaver_closeOpen  hs) fun r2 hr2 => ?_)
  refine zp_bind (zp_mono (wg_f_Program_addStep  hr2) fun r3 hr3 => ?_)
  refine zp_ite (fun _ => ?_) fun _ => ?_
  ·
    exact wg_b_Weaver_emit_59  (F17.up (by decide) hr3)
  ·
    exact wg_b_Weaver_emit_59  (F17.up (by decide) hr3)
theorem wg_b_Weaver_finishThread_67 {σ0 : zS} {k19 : zS → Int32 → Int32 → Option (zS)} {N : Nat} {σ : zS} {v1 : Int32} {v2 : Int32} (hk19 : ∀ (y0 : zS) (y1 : Int32) (y2 : Int32), F17 σ0 y0 → zp (k19 y0 y1 y2) (fun r => F17 σ0 r)) (hs : F17 σ0 σ) : zp (zb_Weaver_finishThread_67 k19 N σ v1 v2) (fun r => F17 σ0 r) := by
  unfold zb_Weaver_finishThread_67
  exact hk19 _ _ _ hs
theorem wg_b_Weaver_finishThread_19 {σ0 : zS} {N : Nat}  : ∀ (n : Nat) (σ : zS) (v1 : Int32) (v2 : Int32), F17 σ0 σ → zp (zb_Weaver_finishThread_19 N n σ v1 v2) (fun r => F17 σ0 r) := by
  intro n
  induction n with
  | zero => intro _ _ _ _; exact zp_none
  | succ n ih =>
    intro σ v1 v2 hs
    rw [zb_Weaver_finishThread_19]
    refine zp_ite (fun _ => ?_) fun _ => ?_
    ·
      exact zp_some hs
    ·
      refine zp_ite (fun _ => ?_) fun _ => ?_
      ·
        exact zp_some hs
      ·
        refine zp_bind fun r5 _ => ?_
        refine zp_chk fun _ => ?_
        refine zp_ite (fun _ => ?_) fun _ => ?_
        ·
          exact wg_b_Weaver_finishThread_67 (ih) hs
        ·
          refine zp_chk fun _ => ?_
          exact wg_b_Weaver_finishThread_67 (ih) (F17.up (by decide) hs)
theorem wg_f_Weaver_finishThread {σ0 : zS} {N : Nat} {σ : zS}  (hs : F17 σ0 σ) : zp (zf_Weaver_finishThread N σ) (fun r => F17 σ0 r) := by
  unfold zf_Weaver_finishThread
  refine zp_bind fun r1 _ => ?_
  refine zp_bind (zp_mono (wg_f_Weaver_closeOpen  hs) fun r2 hr2 => ?_)
  exact wg_b_Weaver_finishThread_19  _ _ _ _ hr2
theorem wg_b_Weaver_leave_166 {σ0 : zS} {N : Nat} {σ : zS} {v1 : Int32}  (hs : F17 σ0 σ) : zp (zb_Weaver_leave_166 N σ v1) (fun r => F17 σ0 r) := by
  unfold zb_Weaver_leave_166
  exact zp_some (F17.up (by decide) hs)
theorem wg_f_Weaver_leave {σ0 : zS} {N : Nat} {σ : zS}  (hs : F17 σ0 σ) : zp (zf_Weaver_leave N σ) (fun r => F17 σ0 r) := by
  unfold zf_Weaver_leave
  refine zp_ite (fun _ => ?_) fun _ => ?_
  ·
    exact zp_some hs
  ·
    refine zp_ite (fun _ => ?_) fun _ => ?_
    ·
      refine zp_chk fun _ => ?_
      refine zp_chk fun _ => ?_
      refine zp_ite (fun _ => ?_) fun _ => ?_
      ·
        refine zp_bind (zp_mono (wg_f_Weaver_finishThread  hs) fun r15 hr15 => ?_)
        exact wg_b_Weaver_leave_166  hr15
      ·
        refine zp_ite (fun _ => ?_) fun _ => ?_
        ·
          refine zp_bind (zp_mono (wg_f_Weaver_emit  hs) fun r13 hr13 => ?_)
          refine zp_chk fun _ => ?_
          exact wg_b_Weaver_leave_166  (F17.up (by decide) hr13)
        ·
          refine zp_ite (fun _ => ?_) fun _ => ?_
          ·
            exact wg_b_Weaver_leave_166  (F17.up (by decide) hs)
          ·
            refine zp_ite (fun _ => ?_) fun _ => ?_
            ·
              exact wg_b_Weaver_leave_166  (F17.up (by decide) hs)
            ·
              refine zp_ite (fun _ => ?_) fun _ => ?_
              ·
                refine zp_chk fun _ => ?_
                refine zp_chk fun _ => ?_
                exact wg_b_Weaver_leave_166  (F17.up (by decide) (F17.up (by decide) hs))
              ·
                refine zp_bind (zp_mono (wg_f_Weaver_closeOpen  hs) fun r10 hr10 => ?_)
                exact wg_b_Weaver_leave_166  (F17.up (by decide) hr10)
    ·
      exact zp_some hs
theorem wg_f_Weaver_turnToElse {σ0 : zS} {σ : zS}  (hs : F17 σ0 σ) : zp (zf_Weaver_turnToElse σ) (fun r => F17 σ0 r) := by
  unfold zf_Weaver_turnToElse
  refine zp_ite (fun _ => ?_) fun _ => ?_
  ·
    exact zp_some hs
  ·
    refine zp_ite (fun _ => ?_) fun _ => ?_
    ·
      exact zp_some hs
    ·
      refine zp_chk fun _ => ?_
      refine zp_chk fun _ => ?_
      refine zp_chk fun _ => ?_
      refine zp_chk fun _ => ?_
      exact zp_some (F17.up (by decide) (F17.up (by decide) (F17.up (by decide) (F17.up (by decide) (F17.up (by decide) hs)))))
