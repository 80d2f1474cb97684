-- both answer alike
set_option maxRecDepth 2000
theorem wkb_f_Weaver_beginThread {σ0 : zS} {σ : zS} {x1 : Int32}  (hs : F57 σ0 σ) : zp (zf_Weaver_beginThread σ x1) (fun r => F57 σ0 r) := by
  unfold zf_Weaver_beginThread
  exact zp_some (F57.up (by decide) (F57.up (by decide) (F57.up (by decide) (F57.up (by decide) (F57.up (by decide) (F57.up (by decide) (F57.up (by decide) hs)))))))
theorem wkb_b_Tokens_advance_33 {σ0 : zS} {σ : zS} {τ : zT}  (hs : F57 σ0 σ) : zp (zb_Tokens_advance_33 σ τ) (fun r => F57 σ0 r.1) := by
  unfold zb_Tokens_advance_33
  refine zp_ite (fun _ => ?_) fun _ => ?_
  ·
    exact zp_some hs
  ·
    refine zp_ite (fun _ => ?_) fun _ => ?_
    ·
      exact zp_some hs
    ·
      refine zp_chk fun _ => ?_
      refine zp_chk fun _ => ?_
      refine zp_chk fun _ => ?_
      exact zp_some (F57.up (by decide) (F57.up (by decide) hs))
theorem wkb_f_Tokens_advance {σ0 : zS} {σ : zS} {τ : zT}  (hs : F57 σ0 σ) : zp (zf_Tokens_advance σ τ) (fun r => F57 σ0 r.1) := by
  unfold zf_Tokens_advance
  refine zp_ite (fun _ => ?_) fun _ => ?_
  ·
    exact wkb_b_Tokens_advance_33  hs
  ·
    refine zp_ite (fun _ => ?_) fun _ => ?_
    ·
      exact wkb_b_Tokens_advance_33  hs
    ·
      exact wkb_b_Tokens_advance_33  (F57.up (by decide) hs)
theorem wkb_f_Program_setThread {σ0 : zS} {σ : zS} {x1 : Int32} {x2 : Int32}  (hs : F57 σ0 σ) : zp (zf_Program_setThread σ x1 x2) (fun r => F57 σ0 r) := by
  unfold zf_Program_setThread
  refine zp_ite (fun _ => ?_) fun _ => ?_
  ·
    exact zp_some hs
  ·
    refine zp_ite (fun _ => ?_) fun _ => ?_
    ·
      exact zp_some hs
    ·
      refine zp_ite (fun _ => ?_) fun _ => ?_
      ·
        exact zp_some hs
      ·
        refine zp_ite (fun _ => ?_) fun _ => ?_
        ·
          exact zp_some hs
        ·
          refine zp_chk fun _ => ?_
          refine zp_chk fun _ => ?_
          refine zp_ite (fun _ => ?_) fun _ => ?_
          ·
            exact zp_some (F57.up (by decide) hs)
          ·
            refine zp_chk fun _ => ?_
            refine zp_chk fun _ => ?_
            exact zp_some (F57.up (by decide) (F57.up (by decide) hs))
theorem wkb_b_Reader_findThread_45 {σ0 : zS} {N : Nat} {σ : zS} {τ : zT} {v2 : Int32}  (hs : F57 σ0 σ) : zp (zb_Reader_findThread_45 N σ τ v2) (fun r => F57 σ0 r) := by
  unfold zb_Reader_findThread_45
  refine zp_chk fun _ => ?_
  refine zp_bind fun r6 _ => ?_
  refine zp_ite (fun _ => ?_) fun _ => ?_
  ·
    refine zp_bind (zp_mono (wkb_f_Program_setThread  hs) fun r8 hr8 => ?_)
    exact zp_some hr8
  ·
    refine zp_chk fun _ => ?_
    exact zp_some (F57.up (by decide) (F57.up (by decide) hs))
theorem wkb_f_Reader_findThread {σ0 : zS} {N : Nat} {σ : zS} {τ : zT} {x1 : Int32}  (hs : F57 σ0 σ) : zp (zf_Reader_findThread N σ τ x1) (fun r => F57 σ0 r) := by
  unfold zf_Reader_findThread
  refine zp_bind fun r1 _ => ?_
  refine zp_chk fun _ => ?_
  refine zp_ite (fun _ => ?_) fun _ => ?_
  ·
    exact zp_some hs
  ·
    refine zp_ite (fun _ => ?_) fun _ => ?_
    ·
      exact wkb_b_Reader_findThread_45  hs
    ·
      refine zp_ite (fun _ => ?_) fun _ => ?_
      ·
        exact wkb_b_Reader_findThread_45  hs
      ·
        exact zp_some hs
theorem wkb_b_Reader_failHere_17 {σ0 : zS} {σ : zS} {s0 : Int32}  (hs : F57 σ0 σ) : zp (zb_Reader_failHere_17 σ s0) (fun r => F57 σ0 r.2) := by
  unfold zb_Reader_failHere_17
  exact zp_some (F57.up (by decide) (F57.up (by decide) hs))
theorem wkb_f_Reader_failHere {σ0 : zS} {σ : zS} {x1 : Int32}  (hs : F57 σ0 σ) : zp (zf_Reader_failHere σ x1) (fun r => F57 σ0 r.2) := by
  unfold zf_Reader_failHere
  refine zp_ite (fun _ => ?_) fun _ => ?_
  ·
    exact wkb_b_Reader_failHere_17  hs
  ·
    exact wkb_b_Reader_failHere_17  hs
theorem wkb_f_Names_tell {σ0 : zS} {σ : zS} {τ : zT} {x1 : Int64} {x2 : Int32} {x3 : Int32}  (hs : F57 σ0 σ) : zp (zf_Names_tell σ τ x1 x2 x3) (fun r => F57 σ0 r.1) := by
  unfold zf_Names_tell
  refine zp_ite (fun _ => ?_) fun _ => ?_
  ·
    exact zp_some hs
  ·
    refine zp_ite (fun _ => ?_) fun _ => ?_
    ·
      exact zp_some hs
    ·
      refine zp_chk fun _ => ?_
      refine zp_chk fun _ => ?_
      refine zp_chk fun _ => ?_
      exact zp_some (F57.up (by decide) (F57.up (by decide) (F57.up (by decide) hs)))
theorem wkb_f_Reader_tellName {σ0 : zS} {N : Nat} {σ : zS} {τ : zT} {x1 : Int32} {x2 : Int32} {x3 : Int32}  (hs : F57 σ0 σ) : zp (zf_Reader_tellName N σ τ x1 x2 x3) (fun r => F57 σ0 r.2.1) := by
  unfold zf_Reader_tellName
  refine zp_ite (fun _ => ?_) fun _ => ?_
  ·
    refine zp_bind fun r2 _ => ?_
    refine zp_ite (fun _ => ?_) fun _ => ?_
    ·
      refine zp_ite (fun _ => ?_) fun _ => ?_
      ·
        refine zp_bind (zp_mono (wkb_f_Names_tell  hs) fun r5 hr5 => ?_)
        refine zp_bind (zp_mono (wkb_f_Tokens_advance  hr5) fun r6 hr6 => ?_)
        exact zp_some hr6
      ·
        refine zp_bind (zp_mono (wkb_f_Reader_failHere  hs) fun r7 hr7 => ?_)
        refine zp_chk fun _ => ?_
        exact zp_some hr7
    ·
      refine zp_bind (zp_mono (wkb_f_Reader_failHere  hs) fun r9 hr9 => ?_)
      refine zp_chk fun _ => ?_
      exact zp_some hr9
  ·
    refine zp_bind (zp_mono (wkb_f_Reader_failHere  hs) fun r11 hr11 => ?_)
    refine zp_chk fun _ => ?_
    exact zp_some hr11
theorem wkb_f_Names_forgetLocals {σ0 : zS} {σ : zS}  (hs : F57 σ0 σ) : zp (zf_Names_forgetLocals σ) (fun r => F57 σ0 r) := by
  unfold zf_Names_forgetLocals
  exact zp_some (F57.up (by decide) hs)
theorem wkb_f_Reader_expect {σ0 : zS} {σ : zS} {τ : zT} {x1 : Int32}  (hs : F57 σ0 σ) : zp (zf_Reader_expect σ τ x1) (fun r => F57 σ0 r.2.1) := by
  unfold zf_Reader_expect
  refine zp_ite (fun _ => ?_) fun _ => ?_
  ·
    refine zp_bind (zp_mono (wkb_f_Tokens_advance  hs) fun r2 hr2 => ?_)
    exact zp_some hr2
  ·
    refine zp_bind (zp_mono (wkb_f_Reader_failHere  hs) fun r3 hr3 => ?_)
    refine zp_chk fun _ => ?_
    exact zp_some hr3
theorem wkb_f_Weaver_enter {σ0 : zS} {σ : zS} {x1 : Int32} {x2 : Int32}  (hs : F57 σ0 σ) : zp (zf_Weaver_enter σ x1 x2) (fun r => F57 σ0 r) := by
  unfold zf_Weaver_enter
  refine zp_ite (fun _ => ?_) fun _ => ?_
  ·
    exact zp_some hs
  ·
    refine zp_ite (fun _ => ?_) fun _ => ?_
    ·
      refine zp_chk fun _ => ?_
      refine zp_chk fun _ => ?_
      refine zp_chk fun _ => ?_
      refine zp_chk fun _ => ?_
      refine zp_chk fun _ => ?_
      refine zp_ite (fun _ => ?_) fun _ => ?_
      ·
        refine zp_ite (fun _ => ?_) fun _ => ?_
        ·
          exact zp_some (F57.up (by decide) (F57.up (by decide) (F57.up (by decide) (F57.up (by decide) (F57.up (by decide) (F57.up (by decide) hs))))))
        ·
          exact zp_some (F57.up (by decide) (F57.up (by decide) (F57.up (by decide) (F57.up (by decide) (F57.up (by decide) (F57.up (by decide) (F57.up (by decide) (F57.up (by decide) hs))))))))
      ·
        exact zp_some (F57.up (by decide) (F57.up (by decide) (F57.up (by decide) (F57.up (by decide) (F57.up (by decide) (F57.up (by decide) (F57.up (by decide) hs)))))))
    ·
      exact zp_some hs
theorem wkb_b_Reader_openBlock_33 {σ0 : zS} {σ : zS} {τ : zT} {v1 : Int32} {v2 : Int32}  (hs : F57 σ0 σ) : zp (zb_Reader_openBlock_33 σ τ v1 v2) (fun r => F57 σ0 r.1) := by
  unfold zb_Reader_openBlock_33
  refine zp_bind (zp_mono (wkb_f_Reader_expect  hs) fun r2 hr2 => ?_)
  refine zp_ite (fun _ => ?_) fun _ => ?_
  ·
    exact zp_some hr2
  ·
    refine zp_bind (zp_mono (wkb_f_Weaver_enter  hr2) fun r4 hr4 => ?_)
    exact zp_some hr4
theorem wkb_f_Reader_openBlock {σ0 : zS} {σ : zS} {τ : zT} {x1 : Int32} {x2 : Int32}  (hs : F57 σ0 σ) : zp (zf_Reader_openBlock σ τ x1 x2) (fun r => F57 σ0 r.1) := by
  unfold zf_Reader_openBlock
  refine zp_ite (fun _ => ?_) fun _ => ?_
  ·
    exact wkb_b_Reader_openBlock_33  hs
  ·
    refine zp_ite (fun _ => ?_) fun _ => ?_
    ·
      exact wkb_b_Reader_openBlock_33  hs
    ·
      refine zp_bind (zp_mono (wkb_f_Reader_failHere  hs) fun r6 hr6 => ?_)
      exact zp_some hr6
theorem wkb_f_Reader_tellThread {σ0 : zS} {N : Nat} {σ : zS} {τ : zT}  (hs : F57 σ0 σ) : zp (zf_Reader_tellThread N σ τ) (fun r => F57 σ0 r.1) := by
  unfold zf_Reader_tellThread
  refine zp_bind (zp_mono (wkb_f_Tokens_advance  hs) fun r1 hr1 => ?_)
  refine zp_bind (zp_mono (wkb_f_Reader_tellName  hr1) fun r2 hr2 => ?_)
  refine zp_ite (fun _ => ?_) fun _ => ?_
  ·
    exact zp_some hr2
  ·
    refine zp_bind (zp_mono (wkb_f_Names_forgetLocals  hr2) fun r4 hr4 => ?_)
    refine zp_bind (zp_mono (wkb_f_Weaver_beginThread  hr4) fun r5 hr5 => ?_)
    refine zp_bind (zp_mono (wkb_f_Reader_openBlock  (F57.up (by decide) hr5)) fun r6 hr6 => ?_)
    exact zp_some hr6
theorem wkb_b_Reader_readText_95 {σ0 : zS} {N : Nat}  : ∀ (n : Nat) (σ : zS) (τ : zT) (v2 : Int32), F57 σ0 σ → zp (zb_Reader_readText_95 N n σ τ v2) (fun r => F57 σ0 r.1) := by
  intro n
  induction n with
  | zero => intro _ _ _ _; exact zp_none
  | succ n ih =>
    intro σ τ v2 hs
    rw [zb_Reader_readText_95]
    refine zp_ite (fun _ => ?_) fun _ => ?_
    ·
      exact zp_some hs
    ·
      refine zp_ite (fun _ => ?_) fun _ => ?_
      ·
        exact zp_some hs
      ·
        refine zp_bind (zp_mono (wkb_f_Reader_findThread  hs) fun r8 hr8 => ?_)
        exact ih _ _ _ hr8
theorem wkb_b_Reader_readText_93 {σ0 : zS} {N : Nat} {σ : zS} {τ : zT}  (hs : F57 σ0 σ) : zp (zb_Reader_readText_93 N σ τ) (fun r => F57 σ0 r.1) := by
  unfold zb_Reader_readText_93
  exact wkb_b_Reader_readText_95  _ _ _ _ hs
theorem wkc_b_M_next_361 {σ0 : zS} {N : Nat} {σ : zS} {v2 : Int32} {s0 : Int32}  (hs : F98 σ0 σ) : zp (zb_M_next_361 N σ v2 s0) (fun r => F98 σ0 r) := by
  unfold zb_M_next_361
  exact zp_some (F98.up (by decide) (F98.up (by decide) hs))
theorem wkc_b_M_next_348 {σ0 : zS} {N : Nat} {σ : zS} {v2 : Int32} {s0 : Int32}  (hs : F98 σ0 σ) : zp (zb_M_next_348 N σ v2 s0) (fun r => F98 σ0 r) := by
  unfold zb_M_next_348
  refine zp_ite (fun _ => ?_) fun _ => ?_
  ·
    exact wkc_b_M_next_361  hs
  ·
    exact wkc_b_M_next_361  hs
theorem wkc_b_M_next_343 {σ0 : zS} {N : Nat} {σ : zS} {v2 : Int32}  (hs : F98 σ0 σ) : zp (zb_M_next_343 N σ v2) (fun r => F98 σ0 r) := by
  unfold zb_M_next_343
  exact wkc_b_M_next_348  hs
theorem wkc_b_M_next_295 {σ0 : zS} {N : Nat} {σ : zS} {v2 : Int32}  (hs : F98 σ0 σ) : zp (zb_M_next_295 N σ v2) (fun r => F98 σ0 r) := by
  unfold zb_M_next_295
  refine zp_ite (fun _ => ?_) fun _ => ?_
  ·
    exact wkc_b_M_next_343  hs
  ·
    refine zp_ite (fun _ => ?_) fun _ => ?_
    ·
      exact wkc_b_M_next_343  hs
    ·
      refine zp_ite (fun _ => ?_) fun _ => ?_
      ·
        exact wkc_b_M_next_343  hs
      ·
        refine zp_ite (fun _ => ?_) fun _ => ?_
        ·
          exact wkc_b_M_next_343  hs
        ·
          refine zp_ite (fun _ => ?_) fun _ => ?_
          ·
            exact wkc_b_M_next_343  hs
          ·
            refine zp_ite (fun _ => ?_) fun _ => ?_
            ·
              exact wkc_b_M_next_343  hs
            ·
              refine zp_ite (fun _ => ?_) fun _ => ?_
              ·
                exact wkc_b_M_next_343  hs
              ·
                refine zp_ite (fun _ => ?_) fun _ => ?_
                ·
                  exact wkc_b_M_next_348  hs
                ·
                  exact wkc_b_M_next_343  hs
theorem wkc_b_M_next_289 {σ0 : zS} {N : Nat} {σ : zS} {s0 : Int32}  (hs : F98 σ0 σ) : zp (zb_M_next_289 N σ s0) (fun r => F98 σ0 r) := by
  unfold zb_M_next_289
  exact zp_some (F98.up (by decide) hs)
theorem wkc_b_M_next_257 {σ0 : zS} {N : Nat} {σ : zS} {v2 : Int32} {v3 : Int32}  (hs : F98 σ0 σ) : zp (zb_M_next_257 N σ v2 v3) (fun r => F98 σ0 r) := by
  unfold zb_M_next_257
  refine zp_ite (fun _ => ?_) fun _ => ?_
  ·
    exact wkc_b_M_next_295  hs
  ·
    refine zp_ite (fun _ => ?_) fun _ => ?_
    ·
      exact wkc_b_M_next_289  (F98.up (by decide) (F98.up (by decide) hs))
    ·
      exact wkc_b_M_next_289  (F98.up (by decide) (F98.up (by decide) hs))
theorem wkc_b_M_next_239 {σ0 : zS} {N : Nat} {σ : zS} {s0 : Int32}  (hs : F98 σ0 σ) : zp (zb_M_next_239 N σ s0) (fun r => F98 σ0 r) := by
  unfold zb_M_next_239
  exact zp_some (F98.up (by decide) hs)
theorem wkc_b_M_next_234 {σ0 : zS} {N : Nat} {σ : zS}  (hs : F98 σ0 σ) : zp (zb_M_next_234 N σ) (fun r => F98 σ0 r) := by
  unfold zb_M_next_234
  exact wkc_b_M_next_239  hs
theorem wkc_b_M_next_161 {σ0 : zS} {N : Nat} {σ : zS} {s0 : Int32}  (hs : F98 σ0 σ) : zp (zb_M_next_161 N σ s0) (fun r => F98 σ0 r) := by
  unfold zb_M_next_161
  refine zp_ite (fun _ => ?_) fun _ => ?_
  ·
    exact zp_some (F98.up (by decide) hs)
  ·
    refine zp_bind fun r35 _ => ?_
    refine zp_ite (fun _ => ?_) fun _ => ?_
    ·
      exact zp_some (F98.up (by decide) hs)
    ·
      refine zp_bind fun r37 _ => ?_
      exact zp_some (F98.up (by decide) (F98.up (by decide) (F98.up (by decide) hs)))
theorem wkc_b_M_next_133 {σ0 : zS} {k101 : zS → Int32 → Option (zS)} {N : Nat} {σ : zS} {v1 : Int32} (hk101 : ∀ (y0 : zS) (y1 : Int32), F98 σ0 y0 → zp (k101 y0 y1) (fun r => F98 σ0 r)) (hs : F98 σ0 σ) : zp (zb_M_next_133 k101 N σ v1) (fun r => F98 σ0 r) := by
  unfold zb_M_next_133
  exact hk101 _ _ (F98.up (by decide) hs)
theorem wkc_b_M_next_101 {σ0 : zS} {N : Nat}  : ∀ (n : Nat) (σ : zS) (v1 : Int32), F98 σ0 σ → zp (zb_M_next_101 N n σ v1) (fun r => F98 σ0 r) := by
  intro n
  induction n with
  | zero => intro _ _ _; exact zp_none
  | succ n ih =>
    intro σ v1 hs
    rw [zb_M_next_101]
    refine zp_bind fun r27 _ => ?_
    refine zp_bind fun r28 _ => ?_
    refine zp_ite (fun _ => ?_) fun _ => ?_
    ·
      exact wkc_b_M_next_133 (ih) hs
    ·
      refine zp_bind fun r30 _ => ?_
      refine zp_bind fun r31 _ => ?_
      refine zp_ite (fun _ => ?_) fun _ => ?_
      ·
        refine zp_ite (fun _ => ?_) fun _ => ?_
        ·
          exact wkc_b_M_next_161  hs
        ·
          exact wkc_b_M_next_161  hs
      ·
        exact wkc_b_M_next_133 (ih) hs
theorem wkc_b_M_next_44 {σ0 : zS} {N : Nat} {σ : zS} {v1 : Int32}  (hs : F98 σ0 σ) : zp (zb_M_next_44 N σ v1) (fun r => F98 σ0 r) := by
  unfold zb_M_next_44
  refine zp_bind fun r2 _ => ?_
  refine zp_bind fun r3 _ => ?_
  refine zp_ite (fun _ => ?_) fun _ => ?_
  ·
    refine zp_bind fun r5 _ => ?_
    refine zp_ite (fun _ => ?_) fun _ => ?_
    ·
      refine zp_bind fun r7 _ => ?_
      refine zp_ite (fun _ => ?_) fun _ => ?_
      ·
        refine zp_ite (fun _ => ?_) fun _ => ?_
        ·
          exact wkc_b_M_next_257  (F98.up (by decide) (F98.up (by decide) (F98.up (by decide) hs)))
        ·
          refine zp_ite (fun _ => ?_) fun _ => ?_
          ·
            exact wkc_b_M_next_295  (F98.up (by decide) (F98.up (by decide) (F98.up (by decide) hs)))
          ·
            exact wkc_b_M_next_257  (F98.up (by decide) (F98.up (by decide) (F98.up (by decide) hs)))
      ·
        refine zp_ite (fun _ => ?_) fun _ => ?_
        ·
          exact wkc_b_M_next_234  (F98.up (by decide) (F98.up (by decide) (F98.up (by decide) (F98.up (by decide) hs))))
        ·
          refine zp_bind fun r23 _ => ?_
          refine zp_ite (fun _ => ?_) fun _ => ?_
          ·
            exact wkc_b_M_next_234  (F98.up (by decide) (F98.up (by decide) (F98.up (by decide) (F98.up (by decide) hs))))
          ·
            refine zp_bind fun r25 _ => ?_
            refine zp_ite (fun _ => ?_) fun _ => ?_
            ·
              exact wkc_b_M_next_239  (F98.up (by decide) (F98.up (by decide) (F98.up (by decide) (F98.up (by decide) hs))))
            ·
              exact wkc_b_M_next_234  (F98.up (by decide) (F98.up (by decide) (F98.up (by decide) (F98.up (by decide) hs))))
    ·
      exact wkc_b_M_next_101  _ _ _ (F98.up (by decide) (F98.up (by decide) (F98.up (by decide) hs)))
  ·
    exact zp_some (F98.up (by decide) (F98.up (by decide) (F98.up (by decide) (F98.up (by decide) (F98.up (by decide) hs)))))
theorem wkc_b_M_next_38 {σ0 : zS} {k10 : zS → Int32 → Option (zS)} {N : Nat} {σ : zS} {v1 : Int32} (hk10 : ∀ (y0 : zS) (y1 : Int32), F98 σ0 y0 → zp (k10 y0 y1) (fun r => F98 σ0 r)) (hs : F98 σ0 σ) : zp (zb_M_next_38 k10 N σ v1) (fun r => F98 σ0 r) := by
  unfold zb_M_next_38
  exact hk10 _ _ hs
theorem wkc_b_M_next_10 {σ0 : zS} {N : Nat}  : ∀ (n : Nat) (σ : zS) (v1 : Int32), F98 σ0 σ → zp (zb_M_next_10 N n σ v1) (fun r => F98 σ0 r) := by
  intro n
  induction n with
  | zero => intro _ _ _; exact zp_none
  | succ n ih =>
    intro σ v1 hs
    rw [zb_M_next_10]
    refine zp_ite (fun _ => ?_) fun _ => ?_
    ·
      exact wkc_b_M_next_44  hs
    ·
      refine zp_bind fun r38 _ => ?_
      refine zp_ite (fun _ => ?_) fun _ => ?_
      ·
        exact wkc_b_M_next_38 (ih) hs
      ·
        refine zp_bind fun r40 _ => ?_
        refine zp_ite (fun _ => ?_) fun _ => ?_
        ·
          exact wkc_b_M_next_44  hs
        ·
          exact wkc_b_M_next_38 (ih) hs
theorem wkc_f_M_next {σ0 : zS} {N : Nat} {σ : zS}  (hs : F98 σ0 σ) : zp (zf_M_next N σ) (fun r => F98 σ0 r) := by
  unfold zf_M_next
  exact wkc_b_M_next_10  _ _ _ hs
theorem wkc_b_M_findLaters_245 {σ0 : zS} {k180 : zS → Int32 → Int32 → Int32 → Int32 → Option (zS)} {N : Nat} {σ : zS} {v1 : Int32} {v2 : Int32} {v3 : Int32} {v4 : Int32} (hk180 : ∀ (y0 : zS) (y1 : Int32) (y2 : Int32) (y3 : Int32) (y4 : Int32), F98 σ0 y0 → zp (k180 y0 y1 y2 y3 y4) (fun r => F98 σ0 r)) (hs : F98 σ0 σ) : zp (zb_M_findLaters_245 k180 N σ v1 v2 v3 v4) (fun r => F98 σ0 r) := by
  unfold zb_M_findLaters_245
  exact hk180 _ _ _ _ _ hs
theorem wkc_b_M_findLaters_224 {σ0 : zS} {k180 : zS → Int32 → Int32 → Int32 → Int32 → Option (zS)} {N : Nat} {σ : zS} {v1 : Int32} {v2 : Int32} {v3 : Int32} {v4 : Int32} {v5 : Int32} (hk180 : ∀ (y0 : zS) (y1 : Int32) (y2 : Int32) (y3 : Int32) (y4 : Int32), F98 σ0 y0 → zp (k180 y0 y1 y2 y3 y4) (fun r => F98 σ0 r)) (hs : F98 σ0 σ) : zp (zb_M_findLaters_224 k180 N σ v1 v2 v3 v4 v5) (fun r => F98 σ0 r) := by
  unfold zb_M_findLaters_224
  refine zp_chk fun _ => ?_
  refine zp_ite (fun _ => ?_) fun _ => ?_
  ·
    exact wkc_b_M_findLaters_245 (hk180) hs
  ·
    refine zp_chk fun _ => ?_
    exact wkc_b_M_findLaters_245 (hk180) (F98.up (by decide) hs)
theorem wkc_b_M_findLaters_180 {σ0 : zS} {k169 : zS → Int32 → Int32 → Int32 → Option (zS)} {N : Nat} (hk169 : ∀ (y0 : zS) (y1 : Int32) (y2 : Int32) (y3 : Int32), F98 σ0 y0 → zp (k169 y0 y1 y2 y3) (fun r => F98 σ0 r)) : ∀ (n : Nat) (σ : zS) (v1 : Int32) (v2 : Int32) (v3 : Int32) (v4 : Int32), F98 σ0 σ → zp (zb_M_findLaters_180 k169 N n σ v1 v2 v3 v4) (fun r => F98 σ0 r) := by
  intro n
  induction n with
  | zero => intro _ _ _ _ _ _; exact zp_none
  | succ n ih =>
    intro σ v1 v2 v3 v4 hs
    rw [zb_M_findLaters_180]
    refine zp_chk fun _ => ?_
    refine zp_ite (fun _ => ?_) fun _ => ?_
    ·
      exact hk169 _ _ _ _ hs
    ·
      refine zp_chk fun _ => ?_
      refine zp_ite (fun _ => ?_) fun _ => ?_
      ·
        exact wkc_b_M_findLaters_224 (ih) hs
      ·
        refine zp_chk fun _ => ?_
        refine zp_ite (fun _ => ?_) fun _ => ?_
        ·
          exact wkc_b_M_findLaters_245 (ih) hs
        ·
          exact wkc_b_M_findLaters_224 (ih) hs
theorem wkc_b_M_findLaters_169 {σ0 : zS} {k2 : zS → Int32 → Option (zS)} {N : Nat} (hk2 : ∀ (y0 : zS) (y1 : Int32), F98 σ0 y0 → zp (k2 y0 y1) (fun r => F98 σ0 r)) : ∀ (n : Nat) (σ : zS) (v1 : Int32) (v2 : Int32) (v3 : Int32), F98 σ0 σ → zp (zb_M_findLaters_169 k2 N n σ v1 v2 v3) (fun r => F98 σ0 r) := by
  intro n
  induction n with
  | zero => intro _ _ _ _ _; exact zp_none
  | succ n ih =>
    intro σ v1 v2 v3 hs
    rw [zb_M_findLaters_169]
    refine zp_ite (fun _ => ?_) fun _ => ?_
    ·
      exact hk2 _ _ hs
    ·
      exact wkc_b_M_findLaters_180 (ih) _ _ _ _ _ _ hs
theorem wkc_b_M_findLaters_167 {σ0 : zS} {k2 : zS → Int32 → Option (zS)} {N : Nat} {σ : zS} {v1 : Int32} {v2 : Int32} (hk2 : ∀ (y0 : zS) (y1 : Int32), F98 σ0 y0 → zp (k2 y0 y1) (fun r => F98 σ0 r)) (hs : F98 σ0 σ) : zp (zb_M_findLaters_167 k2 N σ v1 v2) (fun r => F98 σ0 r) := by
  unfold zb_M_findLaters_167
  exact wkc_b_M_findLaters_169 (hk2) _ _ _ _ _ hs
theorem wkc_b_M_findLaters_135 {σ0 : zS} {k21 : zS → Int32 → Int32 → Int32 → Option (zS)} {N : Nat} {σ : zS} {v1 : Int32} {v3 : Int32} {s0 : Int32} (hk21 : ∀ (y0 : zS) (y1 : Int32) (y2 : Int32) (y3 : Int32), F98 σ0 y0 → zp (k21 y0 y1 y2 y3) (fun r => F98 σ0 r)) (hs : F98 σ0 σ) : zp (zb_M_findLaters_135 k21 N σ v1 v3 s0) (fun r => F98 σ0 r) := by
  unfold zb_M_findLaters_135
  exact hk21 _ _ _ _ hs
theorem wkc_b_M_findLaters_125 {σ0 : zS} {k21 : zS → Int32 → Int32 → Int32 → Option (zS)} {N : Nat} {σ : zS} {v1 : Int32} {v2 : Int32} {v3 : Int32} {v4 : Int32} (hk21 : ∀ (y0 : zS) (y1 : Int32) (y2 : Int32) (y3 : Int32), F98 σ0 y0 → zp (k21 y0 y1 y2 y3) (fun r => F98 σ0 r)) (hs : F98 σ0 σ) : zp (zb_M_findLaters_125 k21 N σ v1 v2 v3 v4) (fun r => F98 σ0 r) := by
  unfold zb_M_findLaters_125
  refine zp_ite (fun _ => ?_) fun _ => ?_
  ·
    exact wkc_b_M_findLaters_135 (hk21) hs
  ·
    exact wkc_b_M_findLaters_135 (hk21) hs
theorem wkc_b_M_findLaters_117 {σ0 : zS} {k60 : zS → Int32 → Int32 → Int32 → Int32 → Int32 → Option (zS)} {N : Nat} {σ : zS} {v1 : Int32} {v2 : Int32} {v3 : Int32} {v5 : Int32} {s0 : Int32} (hk60 : ∀ (y0 : zS) (y1 : Int32) (y2 : Int32) (y3 : Int32) (y4 : Int32) (y5 : Int32), F98 σ0 y0 → zp (k60 y0 y1 y2 y3 y4 y5) (fun r => F98 σ0 r)) (hs : F98 σ0 σ) : zp (zb_M_findLaters_117 k60 N σ v1 v2 v3 v5 s0) (fun r => F98 σ0 r) := by
  unfold zb_M_findLaters_117
  exact hk60 _ _ _ _ _ _ hs
theorem wkc_b_M_findLaters_60 {σ0 : zS} {k21 : zS → Int32 → Int32 → Int32 → Option (zS)} {N : Nat} (hk21 : ∀ (y0 : zS) (y1 : Int32) (y2 : Int32) (y3 : Int32), F98 σ0 y0 → zp (k21 y0 y1 y2 y3) (fun r => F98 σ0 r)) : ∀ (n : Nat) (σ : zS) (v1 : Int32) (v2 : Int32) (v3 : Int32) (v4 : Int32) (v5 : Int32), F98 σ0 σ → zp (zb_M_findLaters_60 k21 N n σ v1 v2 v3 v4 v5) (fun r => F98 σ0 r) := by
  intro n
  induction n with
  | zero => intro _ _ _ _ _ _ _; exact zp_none
  | succ n ih =>
    intro σ v1 v2 v3 v4 v5 hs
    rw [zb_M_findLaters_60]
    refine zp_chk fun _ => ?_
    refine zp_ite (fun _ => ?_) fun _ => ?_
    ·
      exact wkc_b_M_findLaters_125 (hk21) hs
    ·
      refine zp_ite (fun _ => ?_) fun _ => ?_
      ·
        exact wkc_b_M_findLaters_125 (hk21) hs
      ·
        refine zp_chk fun _ => ?_
        refine zp_chk fun _ => ?_
        refine zp_ite (fun _ => ?_) fun _ => ?_
        ·
          exact wkc_b_M_findLaters_117 (ih) hs
        ·
          exact wkc_b_M_findLaters_117 (ih) hs
theorem wkc_b_M_findLaters_55 {σ0 : zS} {k21 : zS → Int32 → Int32 → Int32 → Option (zS)} {N : Nat} {σ : zS} {v1 : Int32} {v2 : Int32} {v3 : Int32} {s0 : Int32} (hk21 : ∀ (y0 : zS) (y1 : Int32) (y2 : Int32) (y3 : Int32), F98 σ0 y0 → zp (k21 y0 y1 y2 y3) (fun r => F98 σ0 r)) (hs : F98 σ0 σ) : zp (zb_M_findLaters_55 k21 N σ v1 v2 v3 s0) (fun r => F98 σ0 r) := by
  unfold zb_M_findLaters_55
  exact wkc_b_M_findLaters_60 (hk21) _ _ _ _ _ _ _ hs
theorem wkc_b_M_findLaters_21 {σ0 : zS} {k2 : zS → Int32 → Option (zS)} {N : Nat} (hk2 : ∀ (y0 : zS) (y1 : Int32), F98 σ0 y0 → zp (k2 y0 y1) (fun r => F98 σ0 r)) : ∀ (n : Nat) (σ : zS) (v1 : Int32) (v2 : Int32) (v3 : Int32), F98 σ0 σ → zp (zb_M_findLaters_21 k2 N n σ v1 v2 v3) (fun r => F98 σ0 r) := by
  intro n
  induction n with
  | zero => intro _ _ _ _ _; exact zp_none
  | succ n ih =>
    intro σ v1 v2 v3 hs
    rw [zb_M_findLaters_21]
    refine zp_ite (fun _ => ?_) fun _ => ?_
    ·
      refine zp_ite (fun _ => ?_) fun _ => ?_
      ·
        exact wkc_b_M_findLaters_167 (hk2) hs
      ·
        refine zp_chk fun _ => ?_
        exact wkc_b_M_findLaters_167 (hk2) (F98.up (by decide) (F98.up (by decide) (F98.up (by decide) hs)))
    ·
      refine zp_chk fun _ => ?_
      refine zp_chk fun _ => ?_
      refine zp_ite (fun _ => ?_) fun _ => ?_
      ·
        exact wkc_b_M_findLaters_55 (ih) hs
      ·
        exact wkc_b_M_findLaters_55 (ih) hs
theorem wkc_b_M_findLaters_2 {σ0 : zS} {N : Nat}  : ∀ (n : Nat) (σ : zS) (v1 : Int32), F98 σ0 σ → zp (zb_M_findLaters_2 N n σ v1) (fun r => F98 σ0 r) := by
  intro n
  induction n with
  | zero => intro _ _ _; exact zp_none
  | succ n ih =>
    intro σ v1 hs
    rw [zb_M_findLaters_2]
    refine zp_ite (fun _ => ?_) fun _ => ?_
    ·
      exact zp_some hs
    ·
      refine zp_ite (fun _ => ?_) fun _ => ?_
      ·
        exact zp_some hs
      ·
        exact wkc_b_M_findLaters_21 (ih) _ _ _ _ _ hs
theorem wkc_f_M_findLaters {σ0 : zS} {N : Nat} {σ : zS}  (hs : F98 σ0 σ) : zp (zf_M_findLaters N σ) (fun r => F98 σ0 r) := by
  unfold zf_M_findLaters
  exact wkc_b_M_findLaters_2  _ _ _ hs
theorem wkc_f_M_fail {σ0 : zS} {σ : zS} {x1 : Int32}  (hs : F98 σ0 σ) : zp (zf_M_fail σ x1) (fun r => F98 σ0 r) := by
  unfold zf_M_fail
  refine zp_ite (fun _ => ?_) fun _ => ?_
  ·
    exact zp_some hs
  ·
    exact zp_some (F98.up (by decide) (F98.up (by decide) (F98.up (by decide) hs)))
theorem wkc_b_M_cannot_14 {σ0 : zS} {σ : zS} {s0 : Int32}  (hs : F98 σ0 σ) : zp (zb_M_cannot_14 σ s0) (fun r => F98 σ0 r) := by
  unfold zb_M_cannot_14
  refine zp_bind (zp_mono (wkc_f_M_fail  hs) fun r2 hr2 => ?_)
  exact zp_some hr2
theorem wkc_f_M_cannot {σ0 : zS} {σ : zS}  (hs : F98 σ0 σ) : zp (zf_M_cannot σ) (fun r => F98 σ0 r) := by
  unfold zf_M_cannot
  refine zp_ite (fun _ => ?_) fun _ => ?_
  ·
    exact wkc_b_M_cannot_14  hs
  ·
    exact wkc_b_M_cannot_14  hs
theorem wkc_b_M_call_12 {σ0 : zS} {N : Nat}  : ∀ (n : Nat) (σ : zS) (v1 : Int32) (v2 : Int32), F98 σ0 σ → zp (zb_M_call_12 N n σ v1 v2) (fun r => F98 σ0 r) := by
  intro n
  induction n with
  | zero => intro _ _ _ _; exact zp_none
  | succ n ih =>
    intro σ v1 v2 hs
    rw [zb_M_call_12]
    refine zp_ite (fun _ => ?_) fun _ => ?_
    ·
      exact zp_some hs
    ·
      refine zp_chk fun _ => ?_
      refine zp_chk fun _ => ?_
      exact ih _ _ _ (F98.up (by decide) hs)
theorem wkc_f_M_call {σ0 : zS} {N : Nat} {σ : zS} {x1 : Int32}  (hs : F98 σ0 σ) : zp (zf_M_call N σ x1) (fun r => F98 σ0 r) := by
  unfold zf_M_call
  refine zp_chk fun _ => ?_
  exact wkc_b_M_call_12  _ _ _ _ (F98.up (by decide) hs)
theorem wkc_f_M_openBlock {σ0 : zS} {N : Nat} {σ : zS} {x1 : Int32} {x2 : Int32}  (hs : F98 σ0 σ) : zp (zf_M_openBlock N σ x1 x2) (fun r => F98 σ0 r) := by
  unfold zf_M_openBlock
  refine zp_ite (fun _ => ?_) fun _ => ?_
  ·
    refine zp_bind fun r2 _ => ?_
    refine zp_ite (fun _ => ?_) fun _ => ?_
    ·
      refine zp_ite (fun _ => ?_) fun _ => ?_
      ·
        refine zp_bind (zp_mono (wkc_f_M_next  hs) fun r5 hr5 => ?_)
        refine zp_chk fun _ => ?_
        refine zp_chk fun _ => ?_
        refine zp_chk fun _ => ?_
        exact zp_some (F98.up (by decide) (F98.up (by decide) (F98.up (by decide) (F98.up (by decide) hr5))))
      ·
        refine zp_bind (zp_mono (wkc_f_M_fail  hs) fun r9 hr9 => ?_)
        exact zp_some hr9
    ·
      refine zp_bind (zp_mono (wkc_f_M_cannot  hs) fun r10 hr10 => ?_)
      exact zp_some hr10
  ·
    exact zp_some hs
theorem wkc_b_M_lead_62 {σ0 : zS} {k8 : zS → Int32 → Int32 → Option (zS)} {N : Nat} {σ : zS} {v1 : Int32} {v2 : Int32} (hk8 : ∀ (y0 : zS) (y1 : Int32) (y2 : Int32), F98 σ0 y0 → zp (k8 y0 y1 y2) (fun r => F98 σ0 r)) (hs : F98 σ0 σ) : zp (zb_M_lead_62 k8 N σ v1 v2) (fun r => F98 σ0 r) := by
  unfold zb_M_lead_62
  exact hk8 _ _ _ hs
theorem wkc_b_M_lead_8 {σ0 : zS} {N : Nat}  : ∀ (n : Nat) (σ : zS) (v1 : Int32) (v2 : Int32), F98 σ0 σ → zp (zb_M_lead_8 N n σ v1 v2) (fun r => F98 σ0 r) := by
  intro n
  induction n with
  | zero => intro _ _ _ _; exact zp_none
  | succ n ih =>
    intro σ v1 v2 hs
    rw [zb_M_lead_8]
    refine zp_ite (fun _ => ?_) fun _ => ?_
    ·
      exact zp_some hs
    ·
      refine zp_chk fun _ => ?_
      refine zp_ite (fun _ => ?_) fun _ => ?_
      ·
        refine zp_chk fun _ => ?_
        exact wkc_b_M_lead_62 (ih) (F98.up (by decide) (F98.up (by decide) hs))
      ·
        refine zp_chk fun _ => ?_
        exact wkc_b_M_lead_62 (ih) (F98.up (by decide) (F98.up (by decide) hs))
theorem wkc_f_M_lead {σ0 : zS} {N : Nat} {σ : zS} {x1 : Int32}  (hs : F98 σ0 σ) : zp (zf_M_lead N σ x1) (fun r => F98 σ0 r) := by
  unfold zf_M_lead
  exact wkc_b_M_lead_8  _ _ _ _ hs
theorem wkc_f_M_wayOf {σ0 : zS} {σ : zS} {x1 : Int32} {x2 : Int32}  (hs : F98 σ0 σ) : zp (zf_M_wayOf σ x1 x2) (fun r => F98 σ0 r.2) := by
  unfold zf_M_wayOf
  refine zp_chk fun _ => ?_
  exact zp_some (F98.up (by decide) hs)
theorem wkc_f_M_addStep {σ0 : zS} {N : Nat} {σ : zS} {x1 : Int32} {x2 : Int32}  (hs : F98 σ0 σ) : zp (zf_M_addStep N σ x1 x2) (fun r => F98 σ0 r.2) := by
  unfold zf_M_addStep
  refine zp_chk fun _ => ?_
  refine zp_ite (fun _ => ?_) fun _ => ?_
  ·
    refine zp_chk fun _ => ?_
    refine zp_chk fun _ => ?_
    refine zp_chk fun _ => ?_
    refine zp_chk fun _ => ?_
    refine zp_chk fun _ => ?_
    refine zp_chk fun _ => ?_
    refine zp_bind (zp_mono (wkc_f_M_lead  (F98.up (by decide) (F98.up (by decide) (F98.up (by decide) (F98.up (by decide) (F98.up (by decide) (F98.up (by decide) hs))))))) fun r9 hr9 => ?_)
    refine zp_chk fun _ => ?_
    refine zp_chk fun _ => ?_
    refine zp_ite (fun _ => ?_) fun _ => ?_
    ·
      exact zp_some (F98.up (by decide) hr9)
    ·
      refine zp_bind (zp_mono (wkc_f_M_wayOf  (F98.up (by decide) hr9)) fun r13 hr13 => ?_)
      exact zp_some (F98.up (by decide) hr13)
  ·
    refine zp_bind (zp_mono (wkc_f_M_fail  hs) fun r14 hr14 => ?_)
    exact zp_some hr14
theorem wkc_f_M_nextIfWell {σ0 : zS} {N : Nat} {σ : zS}  (hs : F98 σ0 σ) : zp (zf_M_nextIfWell N σ) (fun r => F98 σ0 r) := by
  unfold zf_M_nextIfWell
  refine zp_ite (fun _ => ?_) fun _ => ?_
  ·
    exact zp_some hs
  ·
    refine zp_bind (zp_mono (wkc_f_M_next  hs) fun r2 hr2 => ?_)
    exact zp_some hr2
theorem wkc_f_M_take {σ0 : zS} {N : Nat} {σ : zS} {x1 : Int32}  (hs : F98 σ0 σ) : zp (zf_M_take N σ x1) (fun r => F98 σ0 r) := by
  unfold zf_M_take
  refine zp_ite (fun _ => ?_) fun _ => ?_
  ·
    refine zp_bind fun r2 _ => ?_
    refine zp_ite (fun _ => ?_) fun _ => ?_
    ·
      refine zp_bind (zp_mono (wkc_f_M_cannot  hs) fun r4 hr4 => ?_)
      exact zp_some hr4
    ·
      refine zp_bind (zp_mono (wkc_f_M_next  hs) fun r5 hr5 => ?_)
      exact zp_some hr5
  ·
    exact zp_some hs
theorem wkc_b_M_threadNamed_116 {σ0 : zS} {N : Nat} {σ : zS} {v1 : Int32}  (hs : F98 σ0 σ) : zp (zb_M_threadNamed_116 N σ v1) (fun r => F98 σ0 r.2) := by
  unfold zb_M_threadNamed_116
  refine zp_bind (zp_mono (wkc_f_M_next  hs) fun r7 hr7 => ?_)
  exact zp_some hr7
theorem wkc_b_M_threadNamed_112 {σ0 : zS} {N : Nat} {σ : zS} {v1 : Int32}  (hs : F98 σ0 σ) : zp (zb_M_threadNamed_112 N σ v1) (fun r => F98 σ0 r.2) := by
  unfold zb_M_threadNamed_112
  exact wkc_b_M_threadNamed_116  hs
theorem wkc_b_M_threadNamed_52 {σ0 : zS} {N : Nat} {σ : zS} {v1 : Int32}  (hs : F98 σ0 σ) : zp (zb_M_threadNamed_52 N σ v1) (fun r => F98 σ0 r.2) := by
  unfold zb_M_threadNamed_52
  refine zp_ite (fun _ => ?_) fun _ => ?_
  ·
    exact wkc_b_M_threadNamed_116  hs
  ·
    refine zp_bind fun r8 _ => ?_
    refine zp_ite (fun _ => ?_) fun _ => ?_
    ·
      exact wkc_b_M_threadNamed_112  hs
    ·
      refine zp_bind (zp_mono (wkc_f_M_call  hs) fun r10 hr10 => ?_)
      refine zp_chk fun _ => ?_
      exact wkc_b_M_threadNamed_112  (F98.up (by decide) (F98.up (by decide) hr10))
theorem wkc_b_M_threadNamed_46 {σ0 : zS} {N : Nat} {σ : zS}  (hs : F98 σ0 σ) : zp (zb_M_threadNamed_46 N σ) (fun r => F98 σ0 r.2) := by
  unfold zb_M_threadNamed_46
  refine zp_bind (zp_mono (wkc_f_M_cannot  hs) fun r4 hr4 => ?_)
  exact zp_some hr4
theorem wkc_b_M_threadNamed_25 {σ0 : zS} {N : Nat} {σ : zS} {s0 : Int32}  (hs : F98 σ0 σ) : zp (zb_M_threadNamed_25 N σ s0) (fun r => F98 σ0 r.2) := by
  unfold zb_M_threadNamed_25
  refine zp_ite (fun _ => ?_) fun _ => ?_
  ·
    exact wkc_b_M_threadNamed_46  hs
  ·
    refine zp_ite (fun _ => ?_) fun _ => ?_
    ·
      exact wkc_b_M_threadNamed_52  hs
    ·
      refine zp_bind fun r12 _ => ?_
      refine zp_ite (fun _ => ?_) fun _ => ?_
      ·
        exact wkc_b_M_threadNamed_52  hs
      ·
        exact wkc_b_M_threadNamed_46  hs
theorem wkc_f_M_threadNamed {σ0 : zS} {N : Nat} {σ : zS}  (hs : F98 σ0 σ) : zp (zf_M_threadNamed N σ) (fun r => F98 σ0 r.2) := by
  unfold zf_M_threadNamed
  refine zp_ite (fun _ => ?_) fun _ => ?_
  ·
    refine zp_ite (fun _ => ?_) fun _ => ?_
    ·
      exact wkc_b_M_threadNamed_25  hs
    ·
      refine zp_bind fun r14 _ => ?_
      exact wkc_b_M_threadNamed_25  hs
  ·
    exact zp_some hs
theorem wkc_b_M_lockNamed_63 {σ0 : zS} {N : Nat} {σ : zS} {v1 : Int32}  (hs : F98 σ0 σ) : zp (zb_M_lockNamed_63 N σ v1) (fun r => F98 σ0 r.2) := by
  unfold zb_M_lockNamed_63
  refine zp_ite (fun _ => ?_) fun _ => ?_
  ·
    exact zp_some hs
  ·
    refine zp_bind (zp_mono (wkc_f_M_next  hs) fun r6 hr6 => ?_)
    exact zp_some hr6
theorem wkc_b_M_lockNamed_53 {σ0 : zS} {N : Nat} {σ : zS} {v1 : Int32}  (hs : F98 σ0 σ) : zp (zb_M_lockNamed_53 N σ v1) (fun r => F98 σ0 r.2) := by
  unfold zb_M_lockNamed_53
  refine zp_ite (fun _ => ?_) fun _ => ?_
  ·
    exact wkc_b_M_lockNamed_63  hs
  ·
    refine zp_bind (zp_mono (wkc_f_M_fail  hs) fun r9 hr9 => ?_)
    exact wkc_b_M_lockNamed_63  hr9
theorem wkc_b_M_lockNamed_46 {σ0 : zS} {N : Nat} {σ : zS} {v1 : Int32}  (hs : F98 σ0 σ) : zp (zb_M_lockNamed_46 N σ v1) (fun r => F98 σ0 r.2) := by
  unfold zb_M_lockNamed_46
  refine zp_bind (zp_mono (wkc_f_M_cannot  hs) fun r4 hr4 => ?_)
  exact wkc_b_M_lockNamed_63  hr4
theorem wkc_b_M_lockNamed_25 {σ0 : zS} {N : Nat} {σ : zS} {s0 : Int32}  (hs : F98 σ0 σ) : zp (zb_M_lockNamed_25 N σ s0) (fun r => F98 σ0 r.2) := by
  unfold zb_M_lockNamed_25
  refine zp_ite (fun _ => ?_) fun _ => ?_
  ·
    exact wkc_b_M_lockNamed_46  hs
  ·
    refine zp_ite (fun _ => ?_) fun _ => ?_
    ·
      exact wkc_b_M_lockNamed_53  hs
    ·
      refine zp_bind fun r10 _ => ?_
      refine zp_ite (fun _ => ?_) fun _ => ?_
      ·
        exact wkc_b_M_lockNamed_53  hs
      ·
        exact wkc_b_M_lockNamed_46  hs
theorem wkc_f_M_lockNamed {σ0 : zS} {N : Nat} {σ : zS}  (hs : F98 σ0 σ) : zp (zf_M_lockNamed N σ) (fun r => F98 σ0 r.2) := by
  unfold zf_M_lockNamed
  refine zp_ite (fun _ => ?_) fun _ => ?_
  ·
    refine zp_ite (fun _ => ?_) fun _ => ?_
    ·
      exact wkc_b_M_lockNamed_25  hs
    ·
      refine zp_bind fun r12 _ => ?_
      exact wkc_b_M_lockNamed_25  hs
  ·
    exact zp_some hs
theorem wkc_b_M_statement_402 {σ0 : zS} {N : Nat} {σ : zS} {v1 : Int32} {s0 : Int32}  (hs : F98 σ0 σ) : zp (zb_M_statement_402 N σ v1 s0) (fun r => F98 σ0 r) := by
  unfold zb_M_statement_402
  refine zp_bind (zp_mono (wkc_f_M_addStep  hs) fun r32 hr32 => ?_)
  refine zp_bind (zp_mono (wkc_f_M_nextIfWell  hr32) fun r33 hr33 => ?_)
  refine zp_bind (zp_mono (wkc_f_M_threadNamed  hr33) fun r34 hr34 => ?_)
  refine zp_chk fun _ => ?_
  refine zp_bind (zp_mono (wkc_f_M_take  (F98.up (by decide) hr34)) fun r36 hr36 => ?_)
  exact zp_some hr36
theorem wkc_b_M_statement_364 {σ0 : zS} {N : Nat} {σ : zS} {v1 : Int32} {v2 : Int32}  (hs : F98 σ0 σ) : zp (zb_M_statement_364 N σ v1 v2) (fun r => F98 σ0 r) := by
  unfold zb_M_statement_364
  refine zp_bind (zp_mono (wkc_f_M_lockNamed  hs) fun r42 hr42 => ?_)
  refine zp_chk fun _ => ?_
  refine zp_bind (zp_mono (wkc_f_M_take  (F98.up (by decide) hr42)) fun r44 hr44 => ?_)
  exact zp_some hr44
theorem wkc_b_M_statement_153 {σ0 : zS} {N : Nat} {σ : zS} {v2 : Int32}  (hs : F98 σ0 σ) : zp (zb_M_statement_153 N σ v2) (fun r => F98 σ0 r) := by
  unfold zb_M_statement_153
  refine zp_bind (zp_mono (wkc_f_M_openBlock  hs) fun r69 hr69 => ?_)
  exact zp_some hr69
theorem wkc_b_M_joinOpen_8 {σ0 : zS} {N : Nat}  : ∀ (n : Nat) (σ : zS) (v1 : Int32) (v2 : Int32), F98 σ0 σ → zp (zb_M_joinOpen_8 N n σ v1 v2) (fun r => F98 σ0 r) := by
  intro n
  induction n with
  | zero => intro _ _ _ _; exact zp_none
  | succ n ih =>
    intro σ v1 v2 hs
    rw [zb_M_joinOpen_8]
    refine zp_chk fun _ => ?_
    refine zp_ite (fun _ => ?_) fun _ => ?_
    ·
      refine zp_chk fun _ => ?_
      exact zp_some (F98.up (by decide) (F98.up (by decide) hs))
    ·
      refine zp_chk fun _ => ?_
      exact ih _ _ _ hs
theorem wkc_f_M_joinOpen {σ0 : zS} {N : Nat} {σ : zS} {x1 : Int32}  (hs : F98 σ0 σ) : zp (zf_M_joinOpen N σ x1) (fun r => F98 σ0 r) := by
  unfold zf_M_joinOpen
  refine zp_ite (fun _ => ?_) fun _ => ?_
  ·
    exact wkc_b_M_joinOpen_8  _ _ _ _ hs
  ·
    exact zp_some hs
theorem wkc_b_M_closeBlock_177 {σ0 : zS} {N : Nat} {σ : zS} {v1 : Int32}  (hs : F98 σ0 σ) : zp (zb_M_closeBlock_177 N σ v1) (fun r => F98 σ0 r) := by
  unfold zb_M_closeBlock_177
  refine zp_bind (zp_mono (wkc_f_M_next  (F98.up (by decide) hs)) fun r7 hr7 => ?_)
  refine zp_chk fun _ => ?_
  refine zp_ite (fun _ => ?_) fun _ => ?_
  ·
    exact zp_some hr7
  ·
    refine zp_bind fun r10 _ => ?_
    refine zp_ite (fun _ => ?_) fun _ => ?_
    ·
      refine zp_chk fun _ => ?_
      refine zp_bind (zp_mono (wkc_f_M_wayOf  hr7) fun r13 hr13 => ?_)
      refine zp_bind (zp_mono (wkc_f_M_joinOpen  hr13) fun r14 hr14 => ?_)
      exact zp_some hr14
    ·
      refine zp_bind (zp_mono (wkc_f_M_next  hr7) fun r15 hr15 => ?_)
      refine zp_chk fun _ => ?_
      refine zp_bind (zp_mono (wkc_f_M_wayOf  hr15) fun r17 hr17 => ?_)
      refine zp_chk fun _ => ?_
      refine zp_bind (zp_mono (wkc_f_M_openBlock  (F98.up (by decide) hr17)) fun r19 hr19 => ?_)
      refine zp_chk fun _ => ?_
      exact zp_some (F98.up (by decide) hr19)
theorem wkc_f_M_closeBlock {σ0 : zS} {N : Nat} {σ : zS}  (hs : F98 σ0 σ) : zp (zf_M_closeBlock N σ) (fun r => F98 σ0 r) := by
  unfold zf_M_closeBlock
  refine zp_chk fun _ => ?_
  refine zp_ite (fun _ => ?_) fun _ => ?_
  ·
    refine zp_chk fun _ => ?_
    refine zp_chk fun _ => ?_
    refine zp_bind (zp_mono (wkc_f_M_addStep  hs) fun r29 hr29 => ?_)
    refine zp_ite (fun _ => ?_) fun _ => ?_
    ·
      refine zp_chk fun _ => ?_
      refine zp_chk fun _ => ?_
      refine zp_chk fun _ => ?_
      refine zp_chk fun _ => ?_
      refine zp_chk fun _ => ?_
      exact wkc_b_M_closeBlock_177  (F98.up (by decide) hr29)
    ·
      exact zp_some hr29
  ·
    refine zp_ite (fun _ => ?_) fun _ => ?_
    ·
      exact wkc_b_M_closeBlock_177  (F98.up (by decide) hs)
    ·
      refine zp_ite (fun _ => ?_) fun _ => ?_
      ·
        exact wkc_b_M_closeBlock_177  hs
      ·
        refine zp_ite (fun _ => ?_) fun _ => ?_
        ·
          refine zp_chk fun _ => ?_
          refine zp_bind (zp_mono (wkc_f_M_joinOpen  hs) fun r26 hr26 => ?_)
          exact wkc_b_M_closeBlock_177  hr26
        ·
          refine zp_ite (fun _ => ?_) fun _ => ?_
          ·
            refine zp_chk fun _ => ?_
            refine zp_bind (zp_mono (wkc_f_M_lead  hs) fun r22 hr22 => ?_)
            refine zp_chk fun _ => ?_
            refine zp_bind (zp_mono (wkc_f_M_wayOf  hr22) fun r24 hr24 => ?_)
            exact wkc_b_M_closeBlock_177  (F98.up (by decide) hr24)
          ·
            exact wkc_b_M_closeBlock_177  hs
theorem wkc_b_M_readThread_235 {σ0 : zS} {k178 : zS → Int32 → Option (zS)} {N : Nat} {σ : zS} {v1 : Int32} {s0 : Int32} {s1 : Int32} (hk178 : ∀ (y0 : zS) (y1 : Int32), F98 σ0 y0 → zp (k178 y0 y1) (fun r => F98 σ0 r)) (hs : F98 σ0 σ) : zp (zb_M_readThread_235 k178 N σ v1 s0 s1) (fun r => F98 σ0 r) := by
  unfold zb_M_readThread_235
  refine zp_chk fun _ => ?_
  exact hk178 _ _ (F98.up (by decide) hs)
theorem wkc_b_M_readThread_178 {σ0 : zS} {N : Nat}  : ∀ (n : Nat) (σ : zS) (v1 : Int32), F98 σ0 σ → zp (zb_M_readThread_178 N n σ v1) (fun r => F98 σ0 r) := by
  intro n
  induction n with
  | zero => intro _ _ _; exact zp_none
  | succ n ih =>
    intro σ v1 hs
    rw [zb_M_readThread_178]
    refine zp_chk fun _ => ?_
    refine zp_ite (fun _ => ?_) fun _ => ?_
    ·
      exact zp_some hs
    ·
      refine zp_chk fun _ => ?_
      refine zp_ite (fun _ => ?_) fun _ => ?_
      ·
        refine zp_chk fun _ => ?_
        exact wkc_b_M_readThread_235 (ih) hs
      ·
        refine zp_chk fun _ => ?_
        exact wkc_b_M_readThread_235 (ih) hs
theorem wkc_b_M_readThread_155 {σ0 : zS} {N : Nat} {σ : zS}  (hs : F98 σ0 σ) : zp (zb_M_readThread_155 N σ) (fun r => F98 σ0 r) := by
  unfold zb_M_readThread_155
  refine zp_ite (fun _ => ?_) fun _ => ?_
  ·
    refine zp_chk fun _ => ?_
    refine zp_bind (zp_mono (wkc_f_M_lead  hs) fun r13 hr13 => ?_)
    exact wkc_b_M_readThread_178  _ _ _ hr13
  ·
    exact zp_some hs
theorem wkc_b_M_read_268 {σ0 : zS} {N : Nat} {σ : zS} {s0 : Int32}  (hs : F98 σ0 σ) : zp (zb_M_read_268 N σ s0) (fun r => F98 σ0 r.2) := by
  unfold zb_M_read_268
  refine zp_chk fun _ => ?_
  refine zp_ite (fun _ => ?_) fun _ => ?_
  ·
    refine zp_bind fun r10 _ => ?_
    exact zp_some (F98.up (by decide) (F98.up (by decide) hs))
  ·
    exact zp_some (F98.up (by decide) (F98.up (by decide) hs))
theorem wkc_b_M_read_255 {σ0 : zS} {N : Nat} {σ : zS}  (hs : F98 σ0 σ) : zp (zb_M_read_255 N σ) (fun r => F98 σ0 r.2) := by
  unfold zb_M_read_255
  refine zp_ite (fun _ => ?_) fun _ => ?_
  ·
    exact wkc_b_M_read_268  hs
  ·
    exact wkc_b_M_read_268  hs
theorem wkc_b_M_read_244 {σ0 : zS} {N : Nat} {σ : zS}  (hs : F98 σ0 σ) : zp (zb_M_read_244 N σ) (fun r => F98 σ0 r.2) := by
  unfold zb_M_read_244
  refine zp_ite (fun _ => ?_) fun _ => ?_
  ·
    exact wkc_b_M_read_255  hs
  ·
    refine zp_bind (zp_mono (wkc_f_M_findLaters  hs) fun r11 hr11 => ?_)
    exact wkc_b_M_read_255  hr11
theorem wka_b_Tokens_advance_33 {σ0 : zS} {σ : zS} {τ : zT}  (hs : KF σ0 σ) : zp (zb_Tokens_advance_33 σ τ) (fun r => KF σ0 r.1) := by
  unfold zb_Tokens_advance_33
  refine zp_ite (fun _ => ?_) fun _ => ?_
  ·
    exact zp_some hs
  ·
    refine zp_ite (fun _ => ?_) fun _ => ?_
    ·
      exact zp_some hs
    ·
      refine zp_chk fun _ => ?_
      refine zp_chk fun _ => ?_
      refine zp_chk fun _ => ?_
      exact zp_some (KF.up (by decide) (KF.up (by decide) hs))
theorem wka_f_Tokens_advance {σ0 : zS} {σ : zS} {τ : zT}  (hs : KF σ0 σ) : zp (zf_Tokens_advance σ τ) (fun r => KF σ0 r.1) := by
  unfold zf_Tokens_advance
  refine zp_ite (fun _ => ?_) fun _ => ?_
  ·
    exact wka_b_Tokens_advance_33  hs
  ·
    refine zp_ite (fun _ => ?_) fun _ => ?_
    ·
      exact wka_b_Tokens_advance_33  hs
    ·
      exact wka_b_Tokens_advance_33  (KF.up (by decide) hs)
theorem wka_b_Reader_failHere_17 {σ0 : zS} {σ : zS} {s0 : Int32}  (hs : KF σ0 σ) : zp (zb_Reader_failHere_17 σ s0) (fun r => KF σ0 r.2) := by
  unfold zb_Reader_failHere_17
  exact zp_some (KF.up (by decide) (KF.up (by decide) hs))
theorem wka_f_Reader_failHere {σ0 : zS} {σ : zS} {x1 : Int32}  (hs : KF σ0 σ) : zp (zf_Reader_failHere σ x1) (fun r => KF σ0 r.2) := by
  unfold zf_Reader_failHere
  refine zp_ite (fun _ => ?_) fun _ => ?_
  ·
    exact wka_b_Reader_failHere_17  hs
  ·
    exact wka_b_Reader_failHere_17  hs
theorem wka_f_Reader_expect {σ0 : zS} {σ : zS} {τ : zT} {x1 : Int32}  (hs : KF σ0 σ) : zp (zf_Reader_expect σ τ x1) (fun r => KF σ0 r.2.1) := by
  unfold zf_Reader_expect
  refine zp_ite (fun _ => ?_) fun _ => ?_
  ·
    refine zp_bind (zp_mono (wka_f_Tokens_advance  hs) fun r2 hr2 => ?_)
    exact zp_some hr2
  ·
    refine zp_bind (zp_mono (wka_f_Reader_failHere  hs) fun r3 hr3 => ?_)
    refine zp_chk fun _ => ?_
    exact zp_some hr3
theorem wka_f_Weaver_enter {σ0 : zS} {σ : zS} {x1 : Int32} {x2 : Int32}  (hs : KF σ0 σ) : zp (zf_Weaver_enter σ x1 x2) (fun r => KF σ0 r) := by
  unfold zf_Weaver_enter
  refine zp_ite (fun _ => ?_) fun _ => ?_
  ·
    exact zp_some hs
  ·
    refine zp_ite (fun _ => ?_) fun _ => ?_
    ·
      refine zp_chk fun _ => ?_
      refine zp_chk fun _ => ?_
      refine zp_chk fun _ => ?_
      refine zp_chk fun _ => ?_
      refine zp_chk fun _ => ?_
      refine zp_ite (fun _ => ?_) fun _ => ?_
      ·
        refine zp_ite (fun _ => ?_) fun _ => ?_
        ·
          exact zp_some (KF.up (by decide) (KF.up (by decide) (KF.up (by decide) (KF.up (by decide) (KF.up (by decide) (KF.up (by decide) hs))))))
        ·
          exact zp_some (KF.up (by decide) (KF.up (by decide) (KF.up (by decide) (KF.up (by decide) (KF.up (by decide) (KF.up (by decide) (KF.up (by decide) (KF.up (by decide) hs))))))))
      ·
        exact zp_some (KF.up (by decide) (KF.up (by decide) (KF.up (by decide) (KF.up (by decide) (KF.up (by decide) (KF.up (by decide) (KF.up (by decide) hs)))))))
    ·
      exact zp_some hs
theorem wka_b_Reader_openBlock_33 {σ0 : zS} {σ : zS} {τ : zT} {v1 : Int32} {v2 : Int32}  (hs : KF σ0 σ) : zp (zb_Reader_openBlock_33 σ τ v1 v2) (fun r => KF σ0 r.1) := by
  unfold zb_Reader_openBlock_33
  refine zp_bind (zp_mono (wka_f_Reader_expect  hs) fun r2 hr2 => ?_)
  refine zp_ite (fun _ => ?_) fun _ => ?_
  ·
    exact zp_some hr2
  ·
    refine zp_bind (zp_mono (wka_f_Weaver_enter  hr2) fun r4 hr4 => ?_)
    exact zp_some hr4
theorem wka_f_Reader_openBlock {σ0 : zS} {σ : zS} {τ : zT} {x1 : Int32} {x2 : Int32}  (hs : KF σ0 σ) : zp (zf_Reader_openBlock σ τ x1 x2) (fun r => KF σ0 r.1) := by
  unfold zf_Reader_openBlock
  refine zp_ite (fun _ => ?_) fun _ => ?_
  ·
    exact wka_b_Reader_openBlock_33  hs
  ·
    refine zp_ite (fun _ => ?_) fun _ => ?_
    ·
      exact wka_b_Reader_openBlock_33  hs
    ·
      refine zp_bind (zp_mono (wka_f_Reader_failHere  hs) fun r6 hr6 => ?_)
      exact zp_some hr6
theorem wka_f_Reader_readSpan {σ0 : zS} {σ : zS} {τ : zT}  (hs : KF σ0 σ) : zp (zf_Reader_readSpan σ τ) (fun r => KF σ0 r.1) := by
  unfold zf_Reader_readSpan
  refine zp_bind fun r1 _ => ?_
  refine zp_ite (fun _ => ?_) fun _ => ?_
  ·
    refine zp_ite (fun _ => ?_) fun _ => ?_
    ·
      refine zp_bind (zp_mono (wka_f_Tokens_advance  hs) fun r4 hr4 => ?_)
      refine zp_bind (zp_mono (wka_f_Reader_openBlock  hr4) fun r5 hr5 => ?_)
      exact zp_some hr5
    ·
      refine zp_bind (zp_mono (wka_f_Reader_failHere  hs) fun r6 hr6 => ?_)
      exact zp_some hr6
  ·
    refine zp_bind (zp_mono (wka_f_Reader_failHere  hs) fun r7 hr7 => ?_)
    exact zp_some hr7
theorem wka_b_Reader_hasRoomForStep_18 {σ0 : zS} {σ : zS}  (hs : KF σ0 σ) : zp (zb_Reader_hasRoomForStep_18 σ) (fun r => KF σ0 r.2) := by
  unfold zb_Reader_hasRoomForStep_18
  exact zp_some hs
theorem wka_f_Reader_hasRoomForStep {σ0 : zS} {σ : zS}  (hs : KF σ0 σ) : zp (zf_Reader_hasRoomForStep σ) (fun r => KF σ0 r.2) := by
  unfold zf_Reader_hasRoomForStep
  refine zp_bind fun r1 _ => ?_
  refine zp_ite (fun _ => ?_) fun _ => ?_
  ·
    exact wka_b_Reader_hasRoomForStep_18  hs
  ·
    refine zp_bind (zp_mono (wka_f_Reader_failHere  hs) fun r3 hr3 => ?_)
    refine zp_ite (fun _ => ?_) fun _ => ?_
    ·
      exact zp_some hr3
    ·
      exact wka_b_Reader_hasRoomForStep_18  hr3
theorem wka_b_Weaver_closeOpen_70 {σ0 : zS} {k2 : zS → Int32 → Int32 → Option (zS)} {N : Nat} {σ : zS} {v1 : Int32} {v2 : Int32} (hk2 : ∀ (y0 : zS) (y1 : Int32) (y2 : Int32), KF σ0 y0 → zp (k2 y0 y1 y2) (fun r => KF σ0 r)) (hs : KF σ0 σ) : zp (zb_Weaver_closeOpen_70 k2 N σ v1 v2) (fun r => KF σ0 r) := by
  unfold zb_Weaver_closeOpen_70
  exact hk2 _ _ _ hs
theorem wka_b_Weaver_closeOpen_49 {σ0 : zS} {k2 : zS → Int32 → Int32 → Option (zS)} {N : Nat} {σ : zS} {v1 : Int32} {v2 : Int32} {v3 : Int32} (hk2 : ∀ (y0 : zS) (y1 : Int32) (y2 : Int32), KF σ0 y0 → zp (k2 y0 y1 y2) (fun r => KF σ0 r)) (hs : KF σ0 σ) : zp (zb_Weaver_closeOpen_49 k2 N σ v1 v2 v3) (fun r => KF σ0 r) := by
  unfold zb_Weaver_closeOpen_49
  refine zp_ite (fun _ => ?_) fun _ => ?_
  ·
    exact wka_b_Weaver_closeOpen_70 (hk2) hs
  ·
    refine zp_chk fun _ => ?_
    exact wka_b_Weaver_closeOpen_70 (hk2) (KF.up (by decide) hs)
theorem wka_b_Weaver_closeOpen_2 {σ0 : zS} {N : Nat}  : ∀ (n : Nat) (σ : zS) (v1 : Int32) (v2 : Int32), KF σ0 σ → zp (zb_Weaver_closeOpen_2 N n σ v1 v2) (fun r => KF σ0 r) := by
  intro n
  induction n with
  | zero => intro _ _ _ _; exact zp_none
  | succ n ih =>
    intro σ v1 v2 hs
    rw [zb_Weaver_closeOpen_2]
    refine zp_ite (fun _ => ?_) fun _ => ?_
    ·
      exact zp_some (KF.up (by decide) (KF.up (by decide) hs))
    ·
      refine zp_ite (fun _ => ?_) fun _ => ?_
      ·
        exact wka_b_Weaver_closeOpen_70 (ih) hs
      ·
        refine zp_ite (fun _ => ?_) fun _ => ?_
        ·
          exact wka_b_Weaver_closeOpen_70 (ih) hs
        ·
          refine zp_ite (fun _ => ?_) fun _ => ?_
          ·
            exact wka_b_Weaver_closeOpen_49 (ih) hs
          ·
            refine zp_chk fun _ => ?_
            exact wka_b_Weaver_closeOpen_49 (ih) (KF.up (by decide) hs)
theorem wka_f_Weaver_closeOpen {σ0 : zS} {N : Nat} {σ : zS} {x1 : Int32}  (hs : KF σ0 σ) : zp (zf_Weaver_closeOpen N σ x1) (fun r => KF σ0 r) := by
  unfold zf_Weaver_closeOpen
  exact wka_b_Weaver_closeOpen_2  _ _ _ _ hs
theorem wka_b_Weaver_emit_59 {σ0 : zS} {N : Nat} {σ : zS} {s0 : Int32}  (hs : KF σ0 σ) : zp (zb_Weaver_emit_59 N σ s0) (fun r => KF σ0 r) := by
  unfold zb_Weaver_emit_59
  exact zp_some (KF.up (by decide) hs)
theorem wka_f_Weaver_emit {σ0 : zS} {N : Nat} {σ : zS} {x1 : Int32} {x2 : Int32}  (hs : KF σ0 σ) (hk : ¬ wkk x1 := by first | assumption | decide) : zp (zf_Weaver_emit N σ x1 x2) (fun r => KF σ0 r) := by
  unfold zf_Weaver_emit
  refine zp_bind fun r1 _ => ?_
  refine zp_bind (zp_mono (wka_f_Weaver_closeOpen  hs) fun r2 hr2 => ?_)
  refine zp_bind (zp_mono (wka_f_Program_addStep  hr2) fun r3 hr3 => ?_)
  refine zp_ite (fun _ => ?_) fun _ => ?_
  ·
    exact wka_b_Weaver_emit_59  (KF.up (by decide) hr3)
  ·
    exact wka_b_Weaver_emit_59  (KF.up (by decide) hr3)
theorem wka_f_Reader_readStop {σ0 : zS} {N : Nat} {σ : zS} {τ : zT}  (hs : KF σ0 σ) : zp (zf_Reader_readStop N σ τ) (fun r => KF σ0 r.1) := by
  unfold zf_Reader_readStop
  refine zp_bind (zp_mono (wka_f_Reader_hasRoomForStep  hs) fun r1 hr1 => ?_)
  refine zp_ite (fun _ => ?_) fun _ => ?_
  ·
    exact zp_some hr1
  ·
    refine zp_bind (zp_mono (wka_f_Tokens_advance  hr1) fun r3 hr3 => ?_)
    refine zp_bind (zp_mono (wka_f_Weaver_emit  hr3) fun r4 hr4 => ?_)
    refine zp_bind (zp_mono (wka_f_Reader_expect  hr4) fun r5 hr5 => ?_)
    exact zp_some hr5
theorem wka_b_Reader_failAtWrongToken_63 {σ0 : zS} {N : Nat} {σ : zS} {τ : zT} {s0 : Int32}  (hs : KF σ0 σ) : zp (zb_Reader_failAtWrongToken_63 N σ τ s0) (fun r => KF σ0 r) := by
  unfold zb_Reader_failAtWrongToken_63
  refine zp_bind (zp_mono (wka_f_Reader_failHere  hs) fun r3 hr3 => ?_)
  exact zp_some hr3
theorem wka_b_Reader_failAtWrongToken_52 {σ0 : zS} {N : Nat} {σ : zS} {τ : zT} {s0 : Int32}  (hs : KF σ0 σ) : zp (zb_Reader_failAtWrongToken_52 N σ τ s0) (fun r => KF σ0 r) := by
  unfold zb_Reader_failAtWrongToken_52
  refine zp_ite (fun _ => ?_) fun _ => ?_
  ·
    exact wka_b_Reader_failAtWrongToken_63  hs
  ·
    exact wka_b_Reader_failAtWrongToken_63  hs
theorem wka_b_Reader_failAtWrongToken_51 {σ0 : zS} {N : Nat} {σ : zS} {τ : zT}  (hs : KF σ0 σ) : zp (zb_Reader_failAtWrongToken_51 N σ τ) (fun r => KF σ0 r) := by
  unfold zb_Reader_failAtWrongToken_51
  exact wka_b_Reader_failAtWrongToken_52  hs
theorem wka_f_Reader_failAtWrongToken {σ0 : zS} {N : Nat} {σ : zS} {τ : zT}  (hs : KF σ0 σ) : zp (zf_Reader_failAtWrongToken N σ τ) (fun r => KF σ0 r) := by
  unfold zf_Reader_failAtWrongToken
  refine zp_ite (fun _ => ?_) fun _ => ?_
  ·
    exact wka_b_Reader_failAtWrongToken_51  hs
  ·
    refine zp_bind fun r4 _ => ?_
    refine zp_ite (fun _ => ?_) fun _ => ?_
    ·
      exact wka_b_Reader_failAtWrongToken_51  hs
    ·
      refine zp_bind fun r6 _ => ?_
      refine zp_ite (fun _ => ?_) fun _ => ?_
      ·
        exact wka_b_Reader_failAtWrongToken_51  hs
      ·
        exact wka_b_Reader_failAtWrongToken_52  hs
theorem wka_b_Reader_readThreadStep_126 {σ0 : zS} {N : Nat} {σ : zS} {τ : zT}  (hs : KF σ0 σ) : zp (zb_Reader_readThreadStep_126 N σ τ) (fun r => KF σ0 r.1) := by
  unfold zb_Reader_readThreadStep_126
  refine zp_bind (zp_mono (wka_f_Tokens_advance  hs) fun r11 hr11 => ?_)
  refine zp_bind (zp_mono (wka_f_Reader_expect  hr11) fun r12 hr12 => ?_)
  exact zp_some hr12
theorem wka_b_Reader_readThreadStep_54 {σ0 : zS} {N : Nat} {σ : zS} {τ : zT}  (hs : KF σ0 σ) : zp (zb_Reader_readThreadStep_54 N σ τ) (fun r => KF σ0 r.1) := by
  unfold zb_Reader_readThreadStep_54
  refine zp_bind (zp_mono (wka_f_Reader_failHere  hs) fun r6 hr6 => ?_)
  exact zp_some hr6
theorem wka_b_Reader_readThreadStep_44 {σ0 : zS} {N : Nat} {σ : zS} {τ : zT} {v1 : Int32} {s0 : Int32}  (hs : KF σ0 σ) (hk : ¬ wkk v1 := by first | assumption | decide) : zp (zb_Reader_readThreadStep_44 N σ τ v1 s0) (fun r => KF σ0 r.1) := by
  unfold zb_Reader_readThreadStep_44
  refine zp_ite (fun _ => ?_) fun _ => ?_
  ·
    exact wka_b_Reader_readThreadStep_54  hs
  ·
    refine zp_ite (fun _ => ?_) fun _ => ?_
    ·
      refine zp_bind (zp_mono (wka_f_Weaver_emit  hs) fun r8 hr8 => ?_)
      refine zp_bind fun r9 _ => ?_
      refine zp_ite (fun _ => ?_) fun _ => ?_
      ·
        exact wka_b_Reader_readThreadStep_126  hr8
      ·
        refine zp_chk fun _ => ?_
        refine zp_chk fun _ => ?_
        exact wka_b_Reader_readThreadStep_126  (KF.up (by decide) hr8)
    ·
      exact wka_b_Reader_readThreadStep_54  hs
theorem wka_f_Reader_readThreadStep {σ0 : zS} {N : Nat} {σ : zS} {τ : zT} {x1 : Int32}  (hs : KF σ0 σ) (hk : ¬ wkk x1 := by first | assumption | decide) : zp (zf_Reader_readThreadStep N σ τ x1) (fun r => KF σ0 r.1) := by
  unfold zf_Reader_readThreadStep
  refine zp_bind (zp_mono (wka_f_Reader_hasRoomForStep  hs) fun r1 hr1 => ?_)
  refine zp_ite (fun _ => ?_) fun _ => ?_
  ·
    refine zp_bind (zp_mono (wka_f_Tokens_advance  hr1) fun r3 hr3 => ?_)
    refine zp_ite (fun _ => ?_) fun _ => ?_
    ·
      exact wka_b_Reader_readThreadStep_44  hr3
    ·
      refine zp_bind fun r15 _ => ?_
      exact wka_b_Reader_readThreadStep_44  hr3
  ·
    exact zp_some hr1
theorem wka_b_Reader_takeLockName_30 {σ0 : zS} {N : Nat} {σ : zS} {τ : zT} {s0 : Int32}  (hs : KF σ0 σ) : zp (zb_Reader_takeLockName_30 N σ τ s0) (fun r => KF σ0 r.2.1) := by
  unfold zb_Reader_takeLockName_30
  refine zp_ite (fun _ => ?_) fun _ => ?_
  ·
    refine zp_bind (zp_mono (wka_f_Reader_failAtWrongToken  hs) fun r3 hr3 => ?_)
    exact zp_some hr3
  ·
    refine zp_bind (zp_mono (wka_f_Tokens_advance  hs) fun r4 hr4 => ?_)
    exact zp_some hr4
theorem wka_f_Reader_takeLockName {σ0 : zS} {N : Nat} {σ : zS} {τ : zT}  (hs : KF σ0 σ) : zp (zf_Reader_takeLockName N σ τ) (fun r => KF σ0 r.2.1) := by
  unfold zf_Reader_takeLockName
  refine zp_ite (fun _ => ?_) fun _ => ?_
  ·
    exact wka_b_Reader_takeLockName_30  hs
  ·
    refine zp_bind fun r5 _ => ?_
    exact wka_b_Reader_takeLockName_30  hs
theorem wka_b_Reader_readSignal_75 {σ0 : zS} {N : Nat} {σ : zS} {τ : zT} {v3 : Int32} {s0 : Int32}  (hs : KF σ0 σ) (hk : ¬ wkk s0 := by first | assumption | decide) : zp (zb_Reader_readSignal_75 N σ τ v3 s0) (fun r => KF σ0 r.1) := by
  unfold zb_Reader_readSignal_75
  refine zp_bind (zp_mono (wka_f_Weaver_emit  hs) fun r9 hr9 => ?_)
  refine zp_bind (zp_mono (wka_f_Reader_expect  hr9) fun r10 hr10 => ?_)
  exact zp_some hr10
theorem wka_b_Reader_readSignal_51 {σ0 : zS} {N : Nat} {σ : zS} {τ : zT} {v1 : Int32} {v2 : Int32}  (hs : KF σ0 σ) (hk : ¬ wkk v1 := by first | assumption | decide) : zp (zb_Reader_readSignal_51 N σ τ v1 v2) (fun r => KF σ0 r.1) := by
  unfold zb_Reader_readSignal_51
  refine zp_bind (zp_mono (wka_f_Reader_takeLockName  hs) fun r6 hr6 => ?_)
  refine zp_ite (fun _ => ?_) fun _ => ?_
  ·
    exact zp_some hr6
  ·
    refine zp_ite (fun _ => ?_) fun _ => ?_
    ·
      exact wka_b_Reader_readSignal_75  hr6
    ·
      exact wka_b_Reader_readSignal_75  hr6
theorem wka_b_Reader_readSignal_39 {σ0 : zS} {N : Nat} {σ : zS} {τ : zT} {v1 : Int32} {s0 : Int32}  (hs : KF σ0 σ) (hk : ¬ wkk v1 := by first | assumption | decide) : zp (zb_Reader_readSignal_39 N σ τ v1 s0) (fun r => KF σ0 r.1) := by
  unfold zb_Reader_readSignal_39
  refine zp_ite (fun _ => ?_) fun _ => ?_
  ·
    exact wka_b_Reader_readSignal_51  hs
  ·
    refine zp_bind (zp_mono (wka_f_Tokens_advance  hs) fun r11 hr11 => ?_)
    exact wka_b_Reader_readSignal_51  hr11
theorem wka_b_Reader_readSignal_38 {σ0 : zS} {N : Nat} {σ : zS} {τ : zT} {v1 : Int32}  (hs : KF σ0 σ) (hk : ¬ wkk v1 := by first | assumption | decide) : zp (zb_Reader_readSignal_38 N σ τ v1) (fun r => KF σ0 r.1) := by
  unfold zb_Reader_readSignal_38
  exact wka_b_Reader_readSignal_39  hs
theorem wka_f_Reader_readSignal {σ0 : zS} {N : Nat} {σ : zS} {τ : zT} {x1 : Int32}  (hs : KF σ0 σ) (hk : ¬ wkk x1 := by first | assumption | decide) : zp (zf_Reader_readSignal N σ τ x1) (fun r => KF σ0 r.1) := by
  unfold zf_Reader_readSignal
  refine zp_bind (zp_mono (wka_f_Reader_hasRoomForStep  hs) fun r1 hr1 => ?_)
  refine zp_ite (fun _ => ?_) fun _ => ?_
  ·
    refine zp_bind (zp_mono (wka_f_Tokens_advance  hr1) fun r3 hr3 => ?_)
    refine zp_ite (fun _ => ?_) fun _ => ?_
    ·
      exact wka_b_Reader_readSignal_38  hr3
    ·
      refine zp_ite (fun _ => ?_) fun _ => ?_
      ·
        exact wka_b_Reader_readSignal_38  hr3
      ·
        exact wka_b_Reader_readSignal_39  hr3
  ·
    exact zp_some hr1
theorem wka_f_Reader_readLock {σ0 : zS} {N : Nat} {σ : zS} {τ : zT}  (hs : KF σ0 σ) : zp (zf_Reader_readLock N σ τ) (fun r => KF σ0 r.1) := by
  unfold zf_Reader_readLock
  refine zp_bind (zp_mono (wka_f_Reader_hasRoomForStep  hs) fun r1 hr1 => ?_)
  refine zp_ite (fun _ => ?_) fun _ => ?_
  ·
    exact zp_some hr1
  ·
    refine zp_bind (zp_mono (wka_f_Tokens_advance  hr1) fun r3 hr3 => ?_)
    refine zp_bind (zp_mono (wka_f_Reader_takeLockName  hr3) fun r4 hr4 => ?_)
    refine zp_ite (fun _ => ?_) fun _ => ?_
    ·
      exact zp_some hr4
    ·
      refine zp_bind (zp_mono (wka_f_Weaver_emit  hr4) fun r6 hr6 => ?_)
      refine zp_bind (zp_mono (wka_f_Reader_openBlock  hr6) fun r7 hr7 => ?_)
      exact zp_some hr7
theorem wka_b_Weaver_finishThread_67 {σ0 : zS} {k19 : zS → Int32 → Int32 → Option (zS)} {N : Nat} {σ : zS} {v1 : Int32} {v2 : Int32} (hk19 : ∀ (y0 : zS) (y1 : Int32) (y2 : Int32), KF σ0 y0 → zp (k19 y0 y1 y2) (fun r => KF σ0 r)) (hs : KF σ0 σ) : zp (zb_Weaver_finishThread_67 k19 N σ v1 v2) (fun r => KF σ0 r) := by
  unfold zb_Weaver_finishThread_67
  exact hk19 _ _ _ hs
theorem wka_b_Weaver_finishThread_19 {σ0 : zS} {N : Nat}  : ∀ (n : Nat) (σ : zS) (v1 : Int32) (v2 : Int32), KF σ0 σ → zp (zb_Weaver_finishThread_19 N n σ v1 v2) (fun r => KF σ0 r) := by
  intro n
  induction n with
  | zero => intro _ _ _ _; exact zp_none
  | succ n ih =>
    intro σ v1 v2 hs
    rw [zb_Weaver_finishThread_19]
    refine zp_ite (fun _ => ?_) fun _ => ?_
    ·
      exact zp_some hs
    ·
      refine zp_ite (fun _ => ?_) fun _ => ?_
      ·
        exact zp_some hs
      ·
        refine zp_bind fun r5 _ => ?_
        refine zp_chk fun _ => ?_
        refine zp_ite (fun _ => ?_) fun _ => ?_
        ·
          exact wka_b_Weaver_finishThread_67 (ih) hs
        ·
          refine zp_chk fun _ => ?_
          exact wka_b_Weaver_finishThread_67 (ih) (KF.up (by decide) hs)
theorem wka_f_Weaver_finishThread {σ0 : zS} {N : Nat} {σ : zS}  (hs : KF σ0 σ) : zp (zf_Weaver_finishThread N σ) (fun r => KF σ0 r) := by
  unfold zf_Weaver_finishThread
  refine zp_bind fun r1 _ => ?_
  refine zp_bind (zp_mono (wka_f_Weaver_closeOpen  hs) fun r2 hr2 => ?_)
  exact wka_b_Weaver_finishThread_19  _ _ _ _ hr2
theorem wka_b_Weaver_leave_166 {σ0 : zS} {N : Nat} {σ : zS} {v1 : Int32}  (hs : KF σ0 σ) : zp (zb_Weaver_leave_166 N σ v1) (fun r => KF σ0 r) := by
  unfold zb_Weaver_leave_166
  exact zp_some (KF.up (by decide) hs)
theorem wka_f_Weaver_leave {σ0 : zS} {N : Nat} {σ : zS}  (hs : KF σ0 σ) : zp (zf_Weaver_leave N σ) (fun r => KF σ0 r) := by
  unfold zf_Weaver_leave
  refine zp_ite (fun _ => ?_) fun _ => ?_
  ·
    exact zp_some hs
  ·
    refine zp_ite (fun _ => ?_) fun _ => ?_
    ·
      refine zp_chk fun _ => ?_
      refine zp_chk fun _ => ?_
      refine zp_ite (fun _ => ?_) fun _ => ?_
      ·
        refine zp_bind (zp_mono (wka_f_Weaver_finishThread  hs) fun r15 hr15 => ?_)
        exact wka_b_Weaver_leave_166  hr15
      ·
        refine zp_ite (fun _ => ?_) fun _ => ?_
        ·
          refine zp_bind (zp_mono (wka_f_Weaver_emit  hs) fun r13 hr13 => ?_)
          refine zp_chk fun _ => ?_
          exact wka_b_Weaver_leave_166  (KF.up (by decide) hr13)
        ·
          refine zp_ite (fun _ => ?_) fun _ => ?_
          ·
            exact wka_b_Weaver_leave_166  (KF.up (by decide) hs)
          ·
            refine zp_ite (fun _ => ?_) fun _ => ?_
            ·
              exact wka_b_Weaver_leave_166  (KF.up (by decide) hs)
            ·
              refine zp_ite (fun _ => ?_) fun _ => ?_
              ·
                refine zp_chk fun _ => ?_
                refine zp_chk fun _ => ?_
                exact wka_b_Weaver_leave_166  (KF.up (by decide) (KF.up (by decide) hs))
              ·
                refine zp_bind (zp_mono (wka_f_Weaver_closeOpen  hs) fun r10 hr10 => ?_)
                exact wka_b_Weaver_leave_166  (KF.up (by decide) hr10)
    ·
      exact zp_some hs
theorem wka_f_Weaver_turnToElse {σ0 : zS} {σ : zS}  (hs : KF σ0 σ) : zp (zf_Weaver_turnToElse σ) (fun r => KF σ0 r) := by
  unfold zf_Weaver_turnToElse
  refine zp_ite (fun _ => ?_) fun _ => ?_
  ·
    exact zp_some hs
  ·
    refine zp_ite (fun _ => ?_) fun _ => ?_
    ·
      exact zp_some hs
    ·
      refine zp_chk fun _ => ?_
      refine zp_chk fun _ => ?_
      refine zp_chk fun _ => ?_
      refine zp_chk fun _ => ?_
      exact zp_some (KF.up (by decide) (KF.up (by decide) (KF.up (by decide) (KF.up (by decide) (KF.up (by decide) hs)))))
theorem wka_b_Reader_closeBlock_70 {σ0 : zS} {N : Nat} {σ : zS} {τ : zT}  (hs : KF σ0 σ) : zp (zb_Reader_closeBlock_70 N σ τ) (fun r => KF σ0 r.1) := by
  unfold zb_Reader_closeBlock_70
  refine zp_bind (zp_mono (wka_f_Weaver_leave  hs) fun r5 hr5 => ?_)
  exact zp_some hr5
theorem wka_b_Reader_closeBlock_21 {σ0 : zS} {N : Nat} {σ : zS} {τ : zT} {v1 : Int32}  (hs : KF σ0 σ) : zp (zb_Reader_closeBlock_21 N σ τ v1) (fun r => KF σ0 r.1) := by
  unfold zb_Reader_closeBlock_21
  refine zp_bind (zp_mono (wka_f_Tokens_advance  hs) fun r3 hr3 => ?_)
  refine zp_ite (fun _ => ?_) fun _ => ?_
  ·
    exact wka_b_Reader_closeBlock_70  hr3
  ·
    refine zp_ite (fun _ => ?_) fun _ => ?_
    ·
      exact wka_b_Reader_closeBlock_70  hr3
    ·
      refine zp_bind (zp_mono (wka_f_Tokens_advance  hr3) fun r7 hr7 => ?_)
      refine zp_bind (zp_mono (wka_f_Weaver_turnToElse  hr7) fun r8 hr8 => ?_)
      refine zp_bind (zp_mono (wka_f_Reader_expect  hr8) fun r9 hr9 => ?_)
      exact zp_some hr9
theorem wka_f_Reader_closeBlock {σ0 : zS} {N : Nat} {σ : zS} {τ : zT}  (hs : KF σ0 σ) : zp (zf_Reader_closeBlock N σ τ) (fun r => KF σ0 r.1) := by
  unfold zf_Reader_closeBlock
  refine zp_bind fun r1 _ => ?_
  refine zp_ite (fun _ => ?_) fun _ => ?_
  ·
    exact wka_b_Reader_closeBlock_21  hs
  ·
    refine zp_bind (zp_mono (wka_f_Reader_hasRoomForStep  hs) fun r10 hr10 => ?_)
    refine zp_ite (fun _ => ?_) fun _ => ?_
    ·
      exact wka_b_Reader_closeBlock_21  hr10
    ·
      exact zp_some hr10
