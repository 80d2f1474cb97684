-- both answer alike
set_option maxRecDepth 2000
theorem wv_b_Tokens_advance_33 {σ0 : zS} {σ : zS} {τ : zT}  (hs : SL0 σ0 σ) : zp (zb_Tokens_advance_33 σ τ) (fun r => SL0 σ0 r.1) := by
  unfold zb_Tokens_advance_33
  refine zp_ite (fun _ => ?_) fun _ => ?_
  ·
    exact zp_some hs
  ·
    refine zp_ite (fun _ => ?_) fun _ => ?_
    ·
      exact zp_some hs
    ·
      refine zp_chk fun _ => ?_
      refine zp_chk fun _ => ?_
      refine zp_chk fun _ => ?_
      exact zp_some (SL0.up (by decide) (SL0.up (by decide) hs))
theorem wv_f_Tokens_advance {σ0 : zS} {σ : zS} {τ : zT}  (hs : SL0 σ0 σ) : zp (zf_Tokens_advance σ τ) (fun r => SL0 σ0 r.1) := by
  unfold zf_Tokens_advance
  refine zp_ite (fun _ => ?_) fun _ => ?_
  ·
    exact wv_b_Tokens_advance_33  hs
  ·
    refine zp_ite (fun _ => ?_) fun _ => ?_
    ·
      exact wv_b_Tokens_advance_33  hs
    ·
      exact wv_b_Tokens_advance_33  (SL0.up (by decide) hs)
theorem wv_b_Reader_failHere_17 {σ0 : zS} {σ : zS} {s0 : Int32}  (hs : SL0 σ0 σ) : zp (zb_Reader_failHere_17 σ s0) (fun r => SL0 σ0 r.2) := by
  unfold zb_Reader_failHere_17
  exact zp_some (SL0.up (by decide) (SL0.up (by decide) hs))
theorem wv_f_Reader_failHere {σ0 : zS} {σ : zS} {x1 : Int32}  (hs : SL0 σ0 σ) : zp (zf_Reader_failHere σ x1) (fun r => SL0 σ0 r.2) := by
  unfold zf_Reader_failHere
  refine zp_ite (fun _ => ?_) fun _ => ?_
  ·
    exact wv_b_Reader_failHere_17  hs
  ·
    exact wv_b_Reader_failHere_17  hs
theorem wv_f_Reader_expect {σ0 : zS} {σ : zS} {τ : zT} {x1 : Int32}  (hs : SL0 σ0 σ) : zp (zf_Reader_expect σ τ x1) (fun r => SL0 σ0 r.2.1) := by
  unfold zf_Reader_expect
  refine zp_ite (fun _ => ?_) fun _ => ?_
  ·
    refine zp_bind (zp_mono (wv_f_Tokens_advance  hs) fun r2 hr2 => ?_)
    exact zp_some hr2
  ·
    refine zp_bind (zp_mono (wv_f_Reader_failHere  hs) fun r3 hr3 => ?_)
    refine zp_chk fun _ => ?_
    exact zp_some hr3
theorem wv_f_Weaver_enter {σ0 : zS} {σ : zS} {x1 : Int32} {x2 : Int32}  (hs : SL0 σ0 σ) : zp (zf_Weaver_enter σ x1 x2) (fun r => SL0 σ0 r) := by
  unfold zf_Weaver_enter
  refine zp_ite (fun _ => ?_) fun _ => ?_
  ·
    exact zp_some hs
  ·
    refine zp_ite (fun _ => ?_) fun _ => ?_
    ·
      refine zp_chk fun _ => ?_
      refine zp_chk fun _ => ?_
      refine zp_chk fun _ => ?_
      refine zp_chk fun _ => ?_
      refine zp_chk fun _ => ?_
      refine zp_ite (fun _ => ?_) fun _ => ?_
      ·
        refine zp_ite (fun _ => ?_) fun _ => ?_
        ·
          exact zp_some (SL0.up (by decide) (SL0.up (by decide) (SL0.up (by decide) (SL0.up (by decide) (SL0.up (by decide) (SL0.up (by decide) hs))))))
        ·
          exact zp_some (SL0.u4 (by decide) (SL0.up (by decide) (SL0.up (by decide) (SL0.up (by decide) (SL0.up (by decide) (SL0.up (by decide) (SL0.up (by decide) (SL0.up (by decide) hs))))))))
      ·
        exact zp_some (SL0.up (by decide) (SL0.up (by decide) (SL0.up (by decide) (SL0.up (by decide) (SL0.up (by decide) (SL0.up (by decide) (SL0.up (by decide) hs)))))))
    ·
      exact zp_some hs
theorem wv_b_Reader_openBlock_33 {σ0 : zS} {σ : zS} {τ : zT} {v1 : Int32} {v2 : Int32}  (hs : SL0 σ0 σ) : zp (zb_Reader_openBlock_33 σ τ v1 v2) (fun r => SL0 σ0 r.1) := by
  unfold zb_Reader_openBlock_33
  refine zp_bind (zp_mono (wv_f_Reader_expect  hs) fun r2 hr2 => ?_)
  refine zp_ite (fun _ => ?_) fun _ => ?_
  ·
    exact zp_some hr2
  ·
    refine zp_bind (zp_mono (wv_f_Weaver_enter  hr2) fun r4 hr4 => ?_)
    exact zp_some hr4
theorem wv_f_Reader_openBlock {σ0 : zS} {σ : zS} {τ : zT} {x1 : Int32} {x2 : Int32}  (hs : SL0 σ0 σ) : zp (zf_Reader_openBlock σ τ x1 x2) (fun r => SL0 σ0 r.1) := by
  unfold zf_Reader_openBlock
  refine zp_ite (fun _ => ?_) fun _ => ?_
  ·
    exact wv_b_Reader_openBlock_33  hs
  ·
    refine zp_ite (fun _ => ?_) fun _ => ?_
    ·
      exact wv_b_Reader_openBlock_33  hs
    ·
      refine zp_bind (zp_mono (wv_f_Reader_failHere  hs) fun r6 hr6 => ?_)
      exact zp_some hr6
theorem wv_f_Reader_readSpan {σ0 : zS} {σ : zS} {τ : zT}  (hs : SL0 σ0 σ) : zp (zf_Reader_readSpan σ τ) (fun r => SL0 σ0 r.1) := by
  unfold zf_Reader_readSpan
  refine zp_bind fun r1 _ => ?_
  refine zp_ite (fun _ => ?_) fun _ => ?_
  ·
    refine zp_ite (fun _ => ?_) fun _ => ?_
    ·
      refine zp_bind (zp_mono (wv_f_Tokens_advance  hs) fun r4 hr4 => ?_)
      refine zp_bind (zp_mono (wv_f_Reader_openBlock  hr4) fun r5 hr5 => ?_)
      exact zp_some hr5
    ·
      refine zp_bind (zp_mono (wv_f_Reader_failHere  hs) fun r6 hr6 => ?_)
      exact zp_some hr6
  ·
    refine zp_bind (zp_mono (wv_f_Reader_failHere  hs) fun r7 hr7 => ?_)
    exact zp_some hr7
theorem wv_b_Reader_hasRoomForStep_18 {σ0 : zS} {σ : zS}  (hs : SL0 σ0 σ) : zp (zb_Reader_hasRoomForStep_18 σ) (fun r => SL0 σ0 r.2) := by
  unfold zb_Reader_hasRoomForStep_18
  exact zp_some hs
theorem wv_f_Reader_hasRoomForStep {σ0 : zS} {σ : zS}  (hs : SL0 σ0 σ) : zp (zf_Reader_hasRoomForStep σ) (fun r => SL0 σ0 r.2) := by
  unfold zf_Reader_hasRoomForStep
  refine zp_bind fun r1 _ => ?_
  refine zp_ite (fun _ => ?_) fun _ => ?_
  ·
    exact wv_b_Reader_hasRoomForStep_18  hs
  ·
    refine zp_bind (zp_mono (wv_f_Reader_failHere  hs) fun r3 hr3 => ?_)
    refine zp_ite (fun _ => ?_) fun _ => ?_
    ·
      exact zp_some hr3
    ·
      exact wv_b_Reader_hasRoomForStep_18  hr3
theorem wv_b_Weaver_closeOpen_70 {σ0 : zS} {k2 : zS → Int32 → Int32 → Option (zS)} {N : Nat} {σ : zS} {v1 : Int32} {v2 : Int32} (hk2 : ∀ (y0 : zS) (y1 : Int32) (y2 : Int32), SL0 σ0 y0 → zp (k2 y0 y1 y2) (fun r => SL0 σ0 r)) (hs : SL0 σ0 σ) : zp (zb_Weaver_closeOpen_70 k2 N σ v1 v2) (fun r => SL0 σ0 r) := by
  unfold zb_Weaver_closeOpen_70
  exact hk2 _ _ _ hs
theorem wv_b_Weaver_closeOpen_49 {σ0 : zS} {k2 : zS → Int32 → Int32 → Option (zS)} {N : Nat} {σ : zS} {v1 : Int32} {v2 : Int32} {v3 : Int32} (hk2 : ∀ (y0 : zS) (y1 : Int32) (y2 : Int32), SL0 σ0 y0 → zp (k2 y0 y1 y2) (fun r => SL0 σ0 r)) (hs : SL0 σ0 σ) : zp (zb_Weaver_closeOpen_49 k2 N σ v1 v2 v3) (fun r => SL0 σ0 r) := by
  unfold zb_Weaver_closeOpen_49
  refine zp_ite (fun _ => ?_) fun _ => ?_
  ·
    exact wv_b_Weaver_closeOpen_70 (hk2) hs
  ·
    refine zp_chk fun _ => ?_
    exact wv_b_Weaver_closeOpen_70 (hk2) (SL0.up (by decide) hs)
theorem wv_b_Weaver_closeOpen_2 {σ0 : zS} {N : Nat}  : ∀ (n : Nat) (σ : zS) (v1 : Int32) (v2 : Int32), SL0 σ0 σ → zp (zb_Weaver_closeOpen_2 N n σ v1 v2) (fun r => SL0 σ0 r) := by
  intro n
  induction n with
  | zero => intro _ _ _ _; exact zp_none
  | succ n ih =>
    intro σ v1 v2 hs
    rw [zb_Weaver_closeOpen_2]
    refine zp_ite (fun _ => ?_) fun _ => ?_
    ·
      exact zp_some (SL0.up (by decide) (SL0.up (by decide) hs))
    ·
      refine zp_ite (fun _ => ?_) fun _ => ?_
      ·
        exact wv_b_Weaver_closeOpen_70 (ih) hs
      ·
        refine zp_ite (fun _ => ?_) fun _ => ?_
        ·
          exact wv_b_Weaver_closeOpen_70 (ih) hs
        ·
          refine zp_ite (fun _ => ?_) fun _ => ?_
          ·
            exact wv_b_Weaver_closeOpen_49 (ih) hs
          ·
            refine zp_chk fun _ => ?_
            exact wv_b_Weaver_closeOpen_49 (ih) (SL0.up (by decide) hs)
theorem wv_f_Weaver_closeOpen {σ0 : zS} {N : Nat} {σ : zS} {x1 : Int32}  (hs : SL0 σ0 σ) : zp (zf_Weaver_closeOpen N σ x1) (fun r => SL0 σ0 r) := by
  unfold zf_Weaver_closeOpen
  exact wv_b_Weaver_closeOpen_2  _ _ _ _ hs
theorem y_emit {σ0 : zS} {N : Nat} {σ : zS} {x1 x2 : Int32} (hs : SL0 σ0 σ) (hx : (x1 = 0 ∨ x1 = 1) → 0 ≤ x2 ∧ x2 < σ0 4 0) : zp (zf_Weaver_emit N σ x1 x2) (fun r => SL0 σ0 r) := by
  unfold zf_Weaver_emit zb_Weaver_emit_59
  refine zp_bind fun r1 _ => zp_bind (zp_mono (wv_f_Weaver_closeOpen hs) fun r2 h2 => zp_bind (zp_mono (y_addStep h2 fun k => ?_) fun r3 h3 => zp_ite (fun _ => zp_some (SL0.up (by decide) (SL0.up (by decide) h3))) fun _ => zp_some (SL0.up (by decide) (SL0.up (by decide) h3))))
  rw [h2.1 0 (by decide) (by decide)]
  exact hx k
theorem wv_f_Weaver_emit {σ0 : zS} {N : Nat} {σ : zS} {x1 x2 : Int32} (hs : SL0 σ0 σ) (hk : ¬ x1 = 0 ∧ ¬ x1 = 1 := by first | assumption | decide) : zp (zf_Weaver_emit N σ x1 x2) (fun r => SL0 σ0 r) := y_emit hs fun k => k.elim (fun e => absurd e hk.1) fun e => absurd e hk.2
theorem wv_f_Reader_readStop {σ0 : zS} {N : Nat} {σ : zS} {τ : zT}  (hs : SL0 σ0 σ) : zp (zf_Reader_readStop N σ τ) (fun r => SL0 σ0 r.1) := by
  unfold zf_Reader_readStop
  refine zp_bind (zp_mono (wv_f_Reader_hasRoomForStep  hs) fun r1 hr1 => ?_)
  refine zp_ite (fun _ => ?_) fun _ => ?_
  ·
    exact zp_some hr1
  ·
    refine zp_bind (zp_mono (wv_f_Tokens_advance  hr1) fun r3 hr3 => ?_)
    refine zp_bind (zp_mono (wv_f_Weaver_emit  hr3) fun r4 hr4 => ?_)
    refine zp_bind (zp_mono (wv_f_Reader_expect  hr4) fun r5 hr5 => ?_)
    exact zp_some hr5
theorem wv_b_Reader_failAtWrongToken_63 {σ0 : zS} {N : Nat} {σ : zS} {τ : zT} {s0 : Int32}  (hs : SL0 σ0 σ) : zp (zb_Reader_failAtWrongToken_63 N σ τ s0) (fun r => SL0 σ0 r) := by
  unfold zb_Reader_failAtWrongToken_63
  refine zp_bind (zp_mono (wv_f_Reader_failHere  hs) fun r3 hr3 => ?_)
  exact zp_some hr3
theorem wv_b_Reader_failAtWrongToken_52 {σ0 : zS} {N : Nat} {σ : zS} {τ : zT} {s0 : Int32}  (hs : SL0 σ0 σ) : zp (zb_Reader_failAtWrongToken_52 N σ τ s0) (fun r => SL0 σ0 r) := by
  unfold zb_Reader_failAtWrongToken_52
  refine zp_ite (fun _ => ?_) fun _ => ?_
  ·
    exact wv_b_Reader_failAtWrongToken_63  hs
  ·
    exact wv_b_Reader_failAtWrongToken_63  hs
theorem wv_b_Reader_failAtWrongToken_51 {σ0 : zS} {N : Nat} {σ : zS} {τ : zT}  (hs : SL0 σ0 σ) : zp (zb_Reader_failAtWrongToken_51 N σ τ) (fun r => SL0 σ0 r) := by
  unfold zb_Reader_failAtWrongToken_51
  exact wv_b_Reader_failAtWrongToken_52  hs
theorem wv_f_Reader_failAtWrongToken {σ0 : zS} {N : Nat} {σ : zS} {τ : zT}  (hs : SL0 σ0 σ) : zp (zf_Reader_failAtWrongToken N σ τ) (fun r => SL0 σ0 r) := by
  unfold zf_Reader_failAtWrongToken
  refine zp_ite (fun _ => ?_) fun _ => ?_
  ·
    exact wv_b_Reader_failAtWrongToken_51  hs
  ·
    refine zp_bind fun r4 _ => ?_
    refine zp_ite (fun _ => ?_) fun _ => ?_
    ·
      exact wv_b_Reader_failAtWrongToken_51  hs
    ·
      refine zp_bind fun r6 _ => ?_
      refine zp_ite (fun _ => ?_) fun _ => ?_
      ·
        exact wv_b_Reader_failAtWrongToken_51  hs
      ·
        exact wv_b_Reader_failAtWrongToken_52  hs
theorem wv_b_Reader_takeTestValue_72 {σ0 : zS} {N : Nat} {σ : zS} {τ : zT} {s0 : Int32}  (hs : SL0 σ0 σ) : zp (zb_Reader_takeTestValue_72 N σ τ s0) (fun r => SL0 σ0 r.2.1) := by
  unfold zb_Reader_takeTestValue_72
  refine zp_bind (zp_mono (wv_f_Tokens_advance  hs) fun r4 hr4 => ?_)
  exact zp_some hr4
theorem wv_b_Reader_takeTestValue_52 {σ0 : zS} {N : Nat} {σ : zS} {τ : zT} {v1 : Int32}  (hs : SL0 σ0 σ) : zp (zb_Reader_takeTestValue_52 N σ τ v1) (fun r => SL0 σ0 r.2.1) := by
  unfold zb_Reader_takeTestValue_52
  refine zp_ite (fun _ => ?_) fun _ => ?_
  ·
    exact wv_b_Reader_takeTestValue_72  hs
  ·
    exact wv_b_Reader_takeTestValue_72  hs
theorem wv_b_Reader_takeTestValue_29 {σ0 : zS} {N : Nat} {σ : zS} {τ : zT} {s0 : Int32}  (hs : SL0 σ0 σ) : zp (zb_Reader_takeTestValue_29 N σ τ s0) (fun r => SL0 σ0 r.2.1) := by
  unfold zb_Reader_takeTestValue_29
  refine zp_ite (fun _ => ?_) fun _ => ?_
  ·
    exact wv_b_Reader_takeTestValue_52  hs
  ·
    refine zp_ite (fun _ => ?_) fun _ => ?_
    ·
      exact wv_b_Reader_takeTestValue_52  hs
    ·
      refine zp_bind (zp_mono (wv_f_Reader_failAtWrongToken  hs) fun r6 hr6 => ?_)
      exact zp_some hr6
theorem wv_f_Reader_takeTestValue {σ0 : zS} {N : Nat} {σ : zS} {τ : zT}  (hs : SL0 σ0 σ) : zp (zf_Reader_takeTestValue N σ τ) (fun r => SL0 σ0 r.2.1) := by
  unfold zf_Reader_takeTestValue
  refine zp_ite (fun _ => ?_) fun _ => ?_
  ·
    exact wv_b_Reader_takeTestValue_29  hs
  ·
    refine zp_bind fun r7 _ => ?_
    exact wv_b_Reader_takeTestValue_29  hs
theorem wv_f_Weaver_work {σ0 : zS} {σ : zS} {x1 : Int32} {x2 : Int32} {x3 : Int32} {x4 : Int32}  (hs : SL0 σ0 σ) : zp (zf_Weaver_work σ x1 x2 x3 x4) (fun r => SL0 σ0 r) := by
  unfold zf_Weaver_work
  refine zp_bind fun r1 _ => ?_
  refine zp_chk fun _ => ?_
  refine zp_chk fun _ => ?_
  refine zp_chk fun _ => ?_
  refine zp_chk fun _ => ?_
  exact zp_some (SL0.up (by decide) (SL0.up (by decide) (SL0.up (by decide) (SL0.up (by decide) hs))))
theorem wv_b_Reader_readTest_52 {σ0 : zS} {N : Nat} {σ : zS} {τ : zT} {v1 : Int32} {v2 : Int32} {v3 : Int32}  (hs : SL0 σ0 σ) (hk : ¬ v1 = 0 ∧ ¬ v1 = 1 := by first | assumption | decide) : zp (zb_Reader_readTest_52 N σ τ v1 v2 v3) (fun r => SL0 σ0 r.2.1) := by
  unfold zb_Reader_readTest_52
  refine zp_bind (zp_mono (wv_f_Tokens_advance  hs) fun r4 hr4 => ?_)
  refine zp_bind (zp_mono (wv_f_Reader_takeTestValue  hr4) fun r5 hr5 => ?_)
  refine zp_ite (fun _ => ?_) fun _ => ?_
  ·
    refine zp_bind (zp_mono (wv_f_Weaver_emit  hr5) fun r7 hr7 => ?_)
    refine zp_bind (zp_mono (wv_f_Weaver_work  hr7) fun r8 hr8 => ?_)
    exact zp_some hr8
  ·
    exact zp_some hr5
theorem wv_f_Reader_readTest {σ0 : zS} {N : Nat} {σ : zS} {τ : zT} {x1 : Int32}  (hs : SL0 σ0 σ) (hk : ¬ x1 = 0 ∧ ¬ x1 = 1 := by first | assumption | decide) : zp (zf_Reader_readTest N σ τ x1) (fun r => SL0 σ0 r.2.1) := by
  unfold zf_Reader_readTest
  refine zp_bind (zp_mono (wv_f_Reader_takeTestValue  hs) fun r1 hr1 => ?_)
  refine zp_ite (fun _ => ?_) fun _ => ?_
  ·
    refine zp_ite (fun _ => ?_) fun _ => ?_
    ·
      exact wv_b_Reader_readTest_52  hr1
    ·
      refine zp_ite (fun _ => ?_) fun _ => ?_
      ·
        exact wv_b_Reader_readTest_52  hr1
      ·
        refine zp_ite (fun _ => ?_) fun _ => ?_
        ·
          exact wv_b_Reader_readTest_52  hr1
        ·
          refine zp_ite (fun _ => ?_) fun _ => ?_
          ·
            exact wv_b_Reader_readTest_52  hr1
          ·
            refine zp_bind (zp_mono (wv_f_Reader_failHere  hr1) fun r12 hr12 => ?_)
            refine zp_chk fun _ => ?_
            exact zp_some hr12
  ·
    exact zp_some hr1
theorem wv_f_Reader_readCheck {σ0 : zS} {N : Nat} {σ : zS} {τ : zT}  (hs : SL0 σ0 σ) : zp (zf_Reader_readCheck N σ τ) (fun r => SL0 σ0 r.1) := by
  unfold zf_Reader_readCheck
  refine zp_bind (zp_mono (wv_f_Reader_hasRoomForStep  hs) fun r1 hr1 => ?_)
  refine zp_ite (fun _ => ?_) fun _ => ?_
  ·
    exact zp_some hr1
  ·
    refine zp_bind (zp_mono (wv_f_Tokens_advance  hr1) fun r3 hr3 => ?_)
    refine zp_bind (zp_mono (wv_f_Reader_readTest  hr3) fun r4 hr4 => ?_)
    refine zp_ite (fun _ => ?_) fun _ => ?_
    ·
      exact zp_some hr4
    ·
      refine zp_bind (zp_mono (wv_f_Reader_expect  hr4) fun r6 hr6 => ?_)
      exact zp_some hr6
theorem wv_b_Reader_readThreadStep_126 {σ0 : zS} {N : Nat} {σ : zS} {τ : zT}  (hs : SL0 σ0 σ) : zp (zb_Reader_readThreadStep_126 N σ τ) (fun r => SL0 σ0 r.1) := by
  unfold zb_Reader_readThreadStep_126
  refine zp_bind (zp_mono (wv_f_Tokens_advance  hs) fun r11 hr11 => ?_)
  refine zp_bind (zp_mono (wv_f_Reader_expect  hr11) fun r12 hr12 => ?_)
  exact zp_some hr12
theorem wv_b_Reader_readThreadStep_54 {σ0 : zS} {N : Nat} {σ : zS} {τ : zT}  (hs : SL0 σ0 σ) : zp (zb_Reader_readThreadStep_54 N σ τ) (fun r => SL0 σ0 r.1) := by
  unfold zb_Reader_readThreadStep_54
  refine zp_bind (zp_mono (wv_f_Reader_failHere  hs) fun r6 hr6 => ?_)
  exact zp_some hr6
theorem wv_b_Reader_readThreadStep_44 {σ0 : zS} {N : Nat} {σ : zS} {τ : zT} {v1 : Int32} {s0 : Int32}  (hs : SL0 σ0 σ) (hk : ¬ v1 = 0 ∧ ¬ v1 = 1 := by first | assumption | decide) : zp (zb_Reader_readThreadStep_44 N σ τ v1 s0) (fun r => SL0 σ0 r.1) := by
  unfold zb_Reader_readThreadStep_44
  refine zp_ite (fun _ => ?_) fun _ => ?_
  ·
    exact wv_b_Reader_readThreadStep_54  hs
  ·
    refine zp_ite (fun _ => ?_) fun _ => ?_
    ·
      refine zp_bind (zp_mono (wv_f_Weaver_emit  hs) fun r8 hr8 => ?_)
      refine zp_bind fun r9 _ => ?_
      refine zp_ite (fun _ => ?_) fun _ => ?_
      ·
        exact wv_b_Reader_readThreadStep_126  hr8
      ·
        refine zp_chk fun _ => ?_
        refine zp_chk fun _ => ?_
        exact wv_b_Reader_readThreadStep_126  (SL0.up (by decide) hr8)
    ·
      exact wv_b_Reader_readThreadStep_54  hs
theorem wv_f_Reader_readThreadStep {σ0 : zS} {N : Nat} {σ : zS} {τ : zT} {x1 : Int32}  (hs : SL0 σ0 σ) (hk : ¬ x1 = 0 ∧ ¬ x1 = 1 := by first | assumption | decide) : zp (zf_Reader_readThreadStep N σ τ x1) (fun r => SL0 σ0 r.1) := by
  unfold zf_Reader_readThreadStep
  refine zp_bind (zp_mono (wv_f_Reader_hasRoomForStep  hs) fun r1 hr1 => ?_)
  refine zp_ite (fun _ => ?_) fun _ => ?_
  ·
    refine zp_bind (zp_mono (wv_f_Tokens_advance  hr1) fun r3 hr3 => ?_)
    refine zp_ite (fun _ => ?_) fun _ => ?_
    ·
      exact wv_b_Reader_readThreadStep_44  hr3
    ·
      refine zp_bind fun r15 _ => ?_
      exact wv_b_Reader_readThreadStep_44  hr3
  ·
    exact zp_some hr1
theorem wv_b_Reader_takeLockName_30 {σ0 : zS} {N : Nat} {σ : zS} {τ : zT} {s0 : Int32}  (hs : SL0 σ0 σ) : zp (zb_Reader_takeLockName_30 N σ τ s0) (fun r => SL0 σ0 r.2.1) := by
  unfold zb_Reader_takeLockName_30
  refine zp_ite (fun _ => ?_) fun _ => ?_
  ·
    refine zp_bind (zp_mono (wv_f_Reader_failAtWrongToken  hs) fun r3 hr3 => ?_)
    exact zp_some hr3
  ·
    refine zp_bind (zp_mono (wv_f_Tokens_advance  hs) fun r4 hr4 => ?_)
    exact zp_some hr4
theorem wv_f_Reader_takeLockName {σ0 : zS} {N : Nat} {σ : zS} {τ : zT}  (hs : SL0 σ0 σ) : zp (zf_Reader_takeLockName N σ τ) (fun r => SL0 σ0 r.2.1) := by
  unfold zf_Reader_takeLockName
  refine zp_ite (fun _ => ?_) fun _ => ?_
  ·
    exact wv_b_Reader_takeLockName_30  hs
  ·
    refine zp_bind fun r5 _ => ?_
    exact wv_b_Reader_takeLockName_30  hs
theorem wv_b_Reader_readSignal_75 {σ0 : zS} {N : Nat} {σ : zS} {τ : zT} {v3 : Int32} {s0 : Int32}  (hs : SL0 σ0 σ) (hk : ¬ s0 = 0 ∧ ¬ s0 = 1 := by first | assumption | decide) : zp (zb_Reader_readSignal_75 N σ τ v3 s0) (fun r => SL0 σ0 r.1) := by
  unfold zb_Reader_readSignal_75
  refine zp_bind (zp_mono (wv_f_Weaver_emit  hs) fun r9 hr9 => ?_)
  refine zp_bind (zp_mono (wv_f_Reader_expect  hr9) fun r10 hr10 => ?_)
  exact zp_some hr10
theorem wv_b_Reader_readSignal_51 {σ0 : zS} {N : Nat} {σ : zS} {τ : zT} {v1 : Int32} {v2 : Int32}  (hs : SL0 σ0 σ) (hk : ¬ v1 = 0 ∧ ¬ v1 = 1 := by first | assumption | decide) : zp (zb_Reader_readSignal_51 N σ τ v1 v2) (fun r => SL0 σ0 r.1) := by
  unfold zb_Reader_readSignal_51
  refine zp_bind (zp_mono (wv_f_Reader_takeLockName  hs) fun r6 hr6 => ?_)
  refine zp_ite (fun _ => ?_) fun _ => ?_
  ·
    exact zp_some hr6
  ·
    refine zp_ite (fun _ => ?_) fun _ => ?_
    ·
      exact wv_b_Reader_readSignal_75  hr6
    ·
      exact wv_b_Reader_readSignal_75  hr6
theorem wv_b_Reader_readSignal_39 {σ0 : zS} {N : Nat} {σ : zS} {τ : zT} {v1 : Int32} {s0 : Int32}  (hs : SL0 σ0 σ) (hk : ¬ v1 = 0 ∧ ¬ v1 = 1 := by first | assumption | decide) : zp (zb_Reader_readSignal_39 N σ τ v1 s0) (fun r => SL0 σ0 r.1) := by
  unfold zb_Reader_readSignal_39
  refine zp_ite (fun _ => ?_) fun _ => ?_
  ·
    exact wv_b_Reader_readSignal_51  hs
  ·
    refine zp_bind (zp_mono (wv_f_Tokens_advance  hs) fun r11 hr11 => ?_)
    exact wv_b_Reader_readSignal_51  hr11
theorem wv_b_Reader_readSignal_38 {σ0 : zS} {N : Nat} {σ : zS} {τ : zT} {v1 : Int32}  (hs : SL0 σ0 σ) (hk : ¬ v1 = 0 ∧ ¬ v1 = 1 := by first | assumption | decide) : zp (zb_Reader_readSignal_38 N σ τ v1) (fun r => SL0 σ0 r.1) := by
  unfold zb_Reader_readSignal_38
  exact wv_b_Reader_readSignal_39  hs
theorem wv_f_Reader_readSignal {σ0 : zS} {N : Nat} {σ : zS} {τ : zT} {x1 : Int32}  (hs : SL0 σ0 σ) (hk : ¬ x1 = 0 ∧ ¬ x1 = 1 := by first | assumption | decide) : zp (zf_Reader_readSignal N σ τ x1) (fun r => SL0 σ0 r.1) := by
  unfold zf_Reader_readSignal
  refine zp_bind (zp_mono (wv_f_Reader_hasRoomForStep  hs) fun r1 hr1 => ?_)
  refine zp_ite (fun _ => ?_) fun _ => ?_
  ·
    refine zp_bind (zp_mono (wv_f_Tokens_advance  hr1) fun r3 hr3 => ?_)
    refine zp_ite (fun _ => ?_) fun _ => ?_
    ·
      exact wv_b_Reader_readSignal_38  hr3
    ·
      refine zp_ite (fun _ => ?_) fun _ => ?_
      ·
        exact wv_b_Reader_readSignal_38  hr3
      ·
        exact wv_b_Reader_readSignal_39  hr3
  ·
    exact zp_some hr1
theorem wv_f_Reader_readBranch {σ0 : zS} {N : Nat} {σ : zS} {τ : zT} {x1 : Int32} {x2 : Int32}  (hs : SL0 σ0 σ) (hk : ¬ x1 = 0 ∧ ¬ x1 = 1 := by first | assumption | decide) : zp (zf_Reader_readBranch N σ τ x1 x2) (fun r => SL0 σ0 r.1) := by
  unfold zf_Reader_readBranch
  refine zp_bind (zp_mono (wv_f_Reader_hasRoomForStep  hs) fun r1 hr1 => ?_)
  refine zp_ite (fun _ => ?_) fun _ => ?_
  ·
    exact zp_some hr1
  ·
    refine zp_bind (zp_mono (wv_f_Tokens_advance  hr1) fun r3 hr3 => ?_)
    refine zp_bind (zp_mono (wv_f_Reader_readTest  hr3) fun r4 hr4 => ?_)
    refine zp_ite (fun _ => ?_) fun _ => ?_
    ·
      exact zp_some hr4
    ·
      refine zp_bind (zp_mono (wv_f_Reader_openBlock  hr4) fun r6 hr6 => ?_)
      exact zp_some hr6
theorem wv_f_Reader_readLock {σ0 : zS} {N : Nat} {σ : zS} {τ : zT}  (hs : SL0 σ0 σ) : zp (zf_Reader_readLock N σ τ) (fun r => SL0 σ0 r.1) := by
  unfold zf_Reader_readLock
  refine zp_bind (zp_mono (wv_f_Reader_hasRoomForStep  hs) fun r1 hr1 => ?_)
  refine zp_ite (fun _ => ?_) fun _ => ?_
  ·
    exact zp_some hr1
  ·
    refine zp_bind (zp_mono (wv_f_Tokens_advance  hr1) fun r3 hr3 => ?_)
    refine zp_bind (zp_mono (wv_f_Reader_takeLockName  hr3) fun r4 hr4 => ?_)
    refine zp_ite (fun _ => ?_) fun _ => ?_
    ·
      exact zp_some hr4
    ·
      refine zp_bind (zp_mono (wv_f_Weaver_emit  hr4) fun r6 hr6 => ?_)
      refine zp_bind (zp_mono (wv_f_Reader_openBlock  hr6) fun r7 hr7 => ?_)
      exact zp_some hr7
theorem wv_b_Weaver_finishThread_67 {σ0 : zS} {k19 : zS → Int32 → Int32 → Option (zS)} {N : Nat} {σ : zS} {v1 : Int32} {v2 : Int32} (hk19 : ∀ (y0 : zS) (y1 : Int32) (y2 : Int32), SL0 σ0 y0 → zp (k19 y0 y1 y2) (fun r => SL0 σ0 r)) (hs : SL0 σ0 σ) : zp (zb_Weaver_finishThread_67 k19 N σ v1 v2) (fun r => SL0 σ0 r) := by
  unfold zb_Weaver_finishThread_67
  exact hk19 _ _ _ hs
theorem wv_b_Weaver_finishThread_19 {σ0 : zS} {N : Nat}  : ∀ (n : Nat) (σ : zS) (v1 : Int32) (v2 : Int32), SL0 σ0 σ → zp (zb_Weaver_finishThread_19 N n σ v1 v2) (fun r => SL0 σ0 r) := by
  intro n
  induction n with
  | zero => intro _ _ _ _; exact zp_none
  | succ n ih =>
    intro σ v1 v2 hs
    rw [zb_Weaver_finishThread_19]
    refine zp_ite (fun _ => ?_) fun _ => ?_
    ·
      exact zp_some hs
    ·
      refine zp_ite (fun _ => ?_) fun _ => ?_
      ·
        exact zp_some hs
      ·
        refine zp_bind fun r5 _ => ?_
        refine zp_chk fun _ => ?_
        refine zp_ite (fun _ => ?_) fun _ => ?_
        ·
          exact wv_b_Weaver_finishThread_67 (ih) hs
        ·
          refine zp_chk fun _ => ?_
          exact wv_b_Weaver_finishThread_67 (ih) (SL0.up (by decide) hs)
theorem wv_f_Weaver_finishThread {σ0 : zS} {N : Nat} {σ : zS}  (hs : SL0 σ0 σ) : zp (zf_Weaver_finishThread N σ) (fun r => SL0 σ0 r) := by
  unfold zf_Weaver_finishThread
  refine zp_bind fun r1 _ => ?_
  refine zp_bind (zp_mono (wv_f_Weaver_closeOpen  hs) fun r2 hr2 => ?_)
  exact wv_b_Weaver_finishThread_19  _ _ _ _ hr2
theorem wv_b_Weaver_leave_166 {σ0 : zS} {N : Nat} {σ : zS} {v1 : Int32}  (hs : SL0 σ0 σ) : zp (zb_Weaver_leave_166 N σ v1) (fun r => SL0 σ0 r) := by
  unfold zb_Weaver_leave_166
  exact zp_some (SL0.up (by decide) hs)
theorem wv_f_Weaver_leave {σ0 : zS} {N : Nat} {σ : zS}  (hs : SL0 σ0 σ) : zp (zf_Weaver_leave N σ) (fun r => SL0 σ0 r) := by
  unfold zf_Weaver_leave
  refine zp_ite (fun _ => ?_) fun _ => ?_
  ·
    exact zp_some hs
  ·
    refine zp_ite (fun _ => ?_) fun _ => ?_
    ·
      refine zp_chk fun _ => ?_
      refine zp_chk fun _ => ?_
      refine zp_ite (fun _ => ?_) fun _ => ?_
      ·
        refine zp_bind (zp_mono (wv_f_Weaver_finishThread  hs) fun r15 hr15 => ?_)
        exact wv_b_Weaver_leave_166  hr15
      ·
        refine zp_ite (fun _ => ?_) fun _ => ?_
        ·
          refine zp_bind (zp_mono (wv_f_Weaver_emit  hs) fun r13 hr13 => ?_)
          refine zp_chk fun _ => ?_
          exact wv_b_Weaver_leave_166  (SL0.up (by decide) hr13)
        ·
          refine zp_ite (fun _ => ?_) fun _ => ?_
          ·
            exact wv_b_Weaver_leave_166  (SL0.up (by decide) hs)
          ·
            refine zp_ite (fun _ => ?_) fun _ => ?_
            ·
              exact wv_b_Weaver_leave_166  (SL0.up (by decide) hs)
            ·
              refine zp_ite (fun _ => ?_) fun _ => ?_
              ·
                refine zp_chk fun _ => ?_
                refine zp_chk fun _ => ?_
                exact wv_b_Weaver_leave_166  (SL0.up (by decide) (SL0.up (by decide) hs))
              ·
                refine zp_bind (zp_mono (wv_f_Weaver_closeOpen  hs) fun r10 hr10 => ?_)
                exact wv_b_Weaver_leave_166  (SL0.up (by decide) hr10)
    ·
      exact zp_some hs
theorem wv_f_Weaver_turnToElse {σ0 : zS} {σ : zS}  (hs : SL0 σ0 σ) : zp (zf_Weaver_turnToElse σ) (fun r => SL0 σ0 r) := by
  unfold zf_Weaver_turnToElse
  refine zp_ite (fun _ => ?_) fun _ => ?_
  ·
    exact zp_some hs
  ·
    refine zp_ite (fun _ => ?_) fun _ => ?_
    ·
      exact zp_some hs
    ·
      refine zp_chk fun _ => ?_
      refine zp_chk fun _ => ?_
      refine zp_chk fun _ => ?_
      refine zp_chk fun _ => ?_
      exact zp_some (SL0.up (by decide) (SL0.up (by decide) (SL0.up (by decide) (SL0.up (by decide) (SL0.up (by decide) hs)))))
theorem wv_b_Reader_closeBlock_70 {σ0 : zS} {N : Nat} {σ : zS} {τ : zT}  (hs : SL0 σ0 σ) : zp (zb_Reader_closeBlock_70 N σ τ) (fun r => SL0 σ0 r.1) := by
  unfold zb_Reader_closeBlock_70
  refine zp_bind (zp_mono (wv_f_Weaver_leave  hs) fun r5 hr5 => ?_)
  exact zp_some hr5
theorem wv_b_Reader_closeBlock_21 {σ0 : zS} {N : Nat} {σ : zS} {τ : zT} {v1 : Int32}  (hs : SL0 σ0 σ) : zp (zb_Reader_closeBlock_21 N σ τ v1) (fun r => SL0 σ0 r.1) := by
  unfold zb_Reader_closeBlock_21
  refine zp_bind (zp_mono (wv_f_Tokens_advance  hs) fun r3 hr3 => ?_)
  refine zp_ite (fun _ => ?_) fun _ => ?_
  ·
    exact wv_b_Reader_closeBlock_70  hr3
  ·
    refine zp_ite (fun _ => ?_) fun _ => ?_
    ·
      exact wv_b_Reader_closeBlock_70  hr3
    ·
      refine zp_bind (zp_mono (wv_f_Tokens_advance  hr3) fun r7 hr7 => ?_)
      refine zp_bind (zp_mono (wv_f_Weaver_turnToElse  hr7) fun r8 hr8 => ?_)
      refine zp_bind (zp_mono (wv_f_Reader_expect  hr8) fun r9 hr9 => ?_)
      exact zp_some hr9
theorem wv_f_Reader_closeBlock {σ0 : zS} {N : Nat} {σ : zS} {τ : zT}  (hs : SL0 σ0 σ) : zp (zf_Reader_closeBlock N σ τ) (fun r => SL0 σ0 r.1) := by
  unfold zf_Reader_closeBlock
  refine zp_bind fun r1 _ => ?_
  refine zp_ite (fun _ => ?_) fun _ => ?_
  ·
    exact wv_b_Reader_closeBlock_21  hs
  ·
    refine zp_bind (zp_mono (wv_f_Reader_hasRoomForStep  hs) fun r10 hr10 => ?_)
    refine zp_ite (fun _ => ?_) fun _ => ?_
    ·
      exact wv_b_Reader_closeBlock_21  hr10
    ·
      exact zp_some hr10
theorem wv_f_Names_makeLocal {σ0 : zS} {N : Nat} {σ : zS} {τ : zT} {x1 : Int64}  (hs : SL0 σ0 σ) : zp (zf_Names_makeLocal N σ τ x1) (fun r => SL0 σ0 r.2.1) := by
  unfold zf_Names_makeLocal
  refine zp_bind fun r1 _ => ?_
  refine zp_ite (fun _ => ?_) fun _ => ?_
  ·
    exact zp_some hs
  ·
    refine zp_ite (fun _ => ?_) fun _ => ?_
    ·
      exact zp_some hs
    ·
      refine zp_ite (fun _ => ?_) fun _ => ?_
      ·
        refine zp_chk fun _ => ?_
        exact zp_some (SL0.u18 (by decide) hs)
      ·
        exact zp_some hs
theorem wv_b_Reader_takeSetValue_121 {σ0 : zS} {N : Nat} {σ : zS} {τ : zT} {s0 : Int32}  (hs : SL0 σ0 σ) : zp (zb_Reader_takeSetValue_121 N σ τ s0) (fun r => SL0 σ0 r.2.1) := by
  unfold zb_Reader_takeSetValue_121
  refine zp_bind (zp_mono (wv_f_Tokens_advance  hs) fun r7 hr7 => ?_)
  exact zp_some hr7
theorem wv_b_Reader_takeSetValue_102 {σ0 : zS} {N : Nat} {σ : zS} {τ : zT} {v1 : Int32} {v2 : Int32}  (hs : SL0 σ0 σ) : zp (zb_Reader_takeSetValue_102 N σ τ v1 v2) (fun r => SL0 σ0 r.2.1) := by
  unfold zb_Reader_takeSetValue_102
  refine zp_ite (fun _ => ?_) fun _ => ?_
  ·
    exact wv_b_Reader_takeSetValue_121  hs
  ·
    exact wv_b_Reader_takeSetValue_121  hs
theorem wv_b_Reader_takeSetValue_84 {σ0 : zS} {N : Nat} {σ : zS} {τ : zT} {v1 : Int32} {s0 : Int32}  (hs : SL0 σ0 σ) : zp (zb_Reader_takeSetValue_84 N σ τ v1 s0) (fun r => SL0 σ0 r.2.1) := by
  unfold zb_Reader_takeSetValue_84
  refine zp_ite (fun _ => ?_) fun _ => ?_
  ·
    exact wv_b_Reader_takeSetValue_102  hs
  ·
    refine zp_ite (fun _ => ?_) fun _ => ?_
    ·
      exact wv_b_Reader_takeSetValue_102  hs
    ·
      refine zp_bind (zp_mono (wv_f_Reader_failHere  hs) fun r9 hr9 => ?_)
      exact zp_some hr9
theorem wv_b_Reader_takeSetValue_62 {σ0 : zS} {N : Nat} {σ : zS} {τ : zT} {v1 : Int32}  (hs : SL0 σ0 σ) : zp (zb_Reader_takeSetValue_62 N σ τ v1) (fun r => SL0 σ0 r.2.1) := by
  unfold zb_Reader_takeSetValue_62
  refine zp_ite (fun _ => ?_) fun _ => ?_
  ·
    exact wv_b_Reader_takeSetValue_84  hs
  ·
    refine zp_bind (zp_mono (wv_f_Names_makeLocal  hs) fun r10 hr10 => ?_)
    exact wv_b_Reader_takeSetValue_84  hr10
theorem wv_b_Reader_takeSetValue_54 {σ0 : zS} {N : Nat} {σ : zS} {τ : zT}  (hs : SL0 σ0 σ) : zp (zb_Reader_takeSetValue_54 N σ τ) (fun r => SL0 σ0 r.2.1) := by
  unfold zb_Reader_takeSetValue_54
  refine zp_bind (zp_mono (wv_f_Reader_failHere  hs) fun r13 hr13 => ?_)
  exact zp_some hr13
theorem wv_b_Reader_takeSetValue_32 {σ0 : zS} {N : Nat} {σ : zS} {τ : zT} {v1 : Int32}  (hs : SL0 σ0 σ) : zp (zb_Reader_takeSetValue_32 N σ τ v1) (fun r => SL0 σ0 r.2.1) := by
  unfold zb_Reader_takeSetValue_32
  refine zp_ite (fun _ => ?_) fun _ => ?_
  ·
    exact wv_b_Reader_takeSetValue_62  hs
  ·
    refine zp_bind fun r11 _ => ?_
    refine zp_ite (fun _ => ?_) fun _ => ?_
    ·
      exact wv_b_Reader_takeSetValue_62  hs
    ·
      exact wv_b_Reader_takeSetValue_54  hs
theorem wv_b_Reader_takeSetValue_16 {σ0 : zS} {N : Nat} {σ : zS} {τ : zT} {s0 : Int32}  (hs : SL0 σ0 σ) : zp (zb_Reader_takeSetValue_16 N σ τ s0) (fun r => SL0 σ0 r.2.1) := by
  unfold zb_Reader_takeSetValue_16
  refine zp_ite (fun _ => ?_) fun _ => ?_
  ·
    exact wv_b_Reader_takeSetValue_32  hs
  ·
    refine zp_ite (fun _ => ?_) fun _ => ?_
    ·
      exact wv_b_Reader_takeSetValue_54  hs
    ·
      exact wv_b_Reader_takeSetValue_32  hs
theorem wv_f_Reader_takeSetValue {σ0 : zS} {N : Nat} {σ : zS} {τ : zT}  (hs : SL0 σ0 σ) : zp (zf_Reader_takeSetValue N σ τ) (fun r => SL0 σ0 r.2.1) := by
  unfold zf_Reader_takeSetValue
  refine zp_ite (fun _ => ?_) fun _ => ?_
  ·
    exact wv_b_Reader_takeSetValue_16  hs
  ·
    exact wv_b_Reader_takeSetValue_16  hs
theorem wv_b_Reader_readSum_61 {σ0 : zS} {N : Nat} {σ : zS} {τ : zT} {v1 : Int32} {v2 : Int32} {v3 : Int32} {v4 : Int32}  (hs : SL0 σ0 σ) : zp (zb_Reader_readSum_61 N σ τ v1 v2 v3 v4) (fun r => SL0 σ0 r.1) := by
  unfold zb_Reader_readSum_61
  refine zp_ite (fun _ => ?_) fun _ => ?_
  ·
    exact zp_some hs
  ·
    refine zp_bind (zp_mono (wv_f_Weaver_emit  hs) fun r7 hr7 => ?_)
    refine zp_bind (zp_mono (wv_f_Weaver_work  hr7) fun r8 hr8 => ?_)
    refine zp_bind (zp_mono (wv_f_Reader_expect  hr8) fun r9 hr9 => ?_)
    exact zp_some hr9
theorem wv_b_Reader_readSum_40 {σ0 : zS} {N : Nat} {σ : zS} {τ : zT} {v1 : Int32} {v2 : Int32}  (hs : SL0 σ0 σ) : zp (zb_Reader_readSum_40 N σ τ v1 v2) (fun r => SL0 σ0 r.1) := by
  unfold zb_Reader_readSum_40
  refine zp_bind (zp_mono (wv_f_Tokens_advance  hs) fun r4 hr4 => ?_)
  refine zp_bind (zp_mono (wv_f_Reader_takeSetValue  hr4) fun r5 hr5 => ?_)
  exact wv_b_Reader_readSum_61  hr5
theorem wv_f_Reader_readSum {σ0 : zS} {N : Nat} {σ : zS} {τ : zT} {x1 : Int32}  (hs : SL0 σ0 σ) : zp (zf_Reader_readSum N σ τ x1) (fun r => SL0 σ0 r.1) := by
  unfold zf_Reader_readSum
  refine zp_bind (zp_mono (wv_f_Reader_takeSetValue  hs) fun r1 hr1 => ?_)
  refine zp_ite (fun _ => ?_) fun _ => ?_
  ·
    refine zp_ite (fun _ => ?_) fun _ => ?_
    ·
      exact wv_b_Reader_readSum_40  hr1
    ·
      refine zp_ite (fun _ => ?_) fun _ => ?_
      ·
        exact wv_b_Reader_readSum_61  hr1
      ·
        exact wv_b_Reader_readSum_40  hr1
  ·
    exact zp_some hr1
theorem y_readRead {σ0 : zS} {N : Nat} {σ : zS} {τ : zT} {x1 x2 : Int32} (hs : SL0 σ0 σ) (hx : 0 ≤ x2 ∧ x2 < σ0 4 0) : zp (zf_Reader_readRead N σ τ x1 x2) (fun r => SL0 σ0 r.1) := by
  unfold zf_Reader_readRead
  exact zp_bind (zp_mono (wv_f_Tokens_advance hs) fun r1 h1 => zp_bind (zp_mono (y_emit h1 fun _ => hx) fun r2 h2 => zp_bind (zp_mono (wv_f_Weaver_work h2) fun r3 h3 => zp_bind (zp_mono (wv_f_Reader_expect h3) fun r4 h4 => zp_some h4))))
theorem y_readWrite {σ0 : zS} {N : Nat} {σ : zS} {τ : zT} {x1 : Int32} (hs : SL0 σ0 σ) (hx : 0 ≤ x1 ∧ x1 < σ0 4 0) : zp (zf_Reader_readWrite N σ τ x1) (fun r => SL0 σ0 r.1) := by
  unfold zf_Reader_readWrite
  exact zp_bind (zp_mono (wv_f_Reader_takeSetValue hs) fun r1 h1 => zp_ite (fun _ => zp_some h1) fun _ => zp_bind (zp_mono (y_emit h1 fun _ => hx) fun r3 h3 => zp_bind (zp_mono (wv_f_Weaver_work h3) fun r4 h4 => zp_bind (zp_mono (wv_f_Reader_expect h4) fun r5 h5 => zp_some h5))))
theorem wv_b_Reader_readSetting_94 {σ0 : zS} {N : Nat} {σ : zS} {τ : zT}  (hs : SL0 σ0 σ) : zp (zb_Reader_readSetting_94 N σ τ) (fun r => SL0 σ0 r.1) := by
  unfold zb_Reader_readSetting_94
  refine zp_bind (zp_mono (wv_f_Reader_failHere  hs) fun r9 hr9 => ?_)
  exact zp_some hr9
theorem wv_b_Reader_readSetting_25 {σ0 : zS} {N : Nat} {σ : zS} {τ : zT}  (hs : SL0 σ0 σ) : zp (zb_Reader_readSetting_25 N σ τ) (fun r => SL0 σ0 r.1) := by
  unfold zb_Reader_readSetting_25
  refine zp_bind (zp_mono (wv_f_Reader_failHere  hs) fun r3 hr3 => ?_)
  exact zp_some hr3
theorem y_set148 {σ0 : zS} {N : Nat} {σ : zS} {τ : zT} {v2 v3 s0 : Int32} (hs : SL0 σ0 σ) (h1 : v2 = 0 → ¬ s0 = -1 → 0 ≤ s0 ∧ s0 < σ0 4 0) (h2 : ¬ v2 = 0 → 0 ≤ v3 ∧ v3 < σ0 4 0) : zp (zb_Reader_readSetting_148 N σ τ v2 v3 s0) (fun r => SL0 σ0 r.1) := by
  unfold zb_Reader_readSetting_148
  exact zp_ite (fun z => zp_ite (fun _ => zp_bind (zp_mono (wv_f_Reader_readSum hs) fun r h => zp_some h)) fun n => zp_bind (zp_mono (y_readRead hs (h1 z n)) fun r h => zp_some h)) fun n => zp_bind (zp_mono (y_readWrite hs (h2 n)) fun r h => zp_some h)
theorem y_set78 {σ0 : zS} {N : Nat} {σ : zS} {τ : zT} {v2 s0 : Int32} (hs : SL0 σ0 σ) (hx : ¬ v2 = 0 → ¬ s0 = -1 → 0 ≤ s0 ∧ s0 < σ0 4 0) : zp (zb_Reader_readSetting_78 N σ τ v2 s0) (fun r => SL0 σ0 r.1) := by
  unfold zb_Reader_readSetting_78
  refine zp_ite (fun _ => wv_b_Reader_readSetting_94 hs) fun n => zp_bind fun r10 _ => zp_ite (fun _ => zp_bind (zp_mono (wv_f_Tokens_advance hs) fun r12 h12 => zp_bind (zp_mono (wv_f_Reader_expect h12) fun r13 h13 => zp_ite (fun _ => zp_ite (fun _ => y_set148 h13 (fun _ k => absurd rfl k) fun k => hx k n) fun _ => zp_bind (zp_mono (y_numG h13.2.1.2) fun r21 h21 => y_set148 h13 (fun _ k => ?_) fun k => hx k n)) fun _ => zp_some h13))) fun _ => wv_b_Reader_readSetting_94 hs
  have := h21.resolve_left k
  rw [h13.1 0 (by decide) (by decide)] at this
  exact this
theorem y_set41 {σ0 : zS} {N : Nat} {σ : zS} {τ : zT} {v1 s0 : Int32} (hs : SL0 σ0 σ) (hx : ¬ s0 = 0 → v1 = 0) : zp (zb_Reader_readSetting_41 N σ τ v1 s0) (fun r => SL0 σ0 r.1) := by
  unfold zb_Reader_readSetting_41
  refine zp_ite (fun z => zp_bind (zp_mono (wv_f_Names_makeLocal hs) fun r7 h7 => y_set78 h7 fun k => absurd z k)) fun n => ?_
  rw [hx n]
  refine zp_bind (zp_mono (y_numG hs.2.1.2) fun r22 h22 => y_set78 hs fun _ k => ?_)
  have := h22.resolve_left k
  rw [hs.1 0 (by decide) (by decide)] at this
  exact this
theorem wv_f_Reader_readSetting {σ0 : zS} {N : Nat} {σ : zS} {τ : zT} (hs : SL0 σ0 σ) : zp (zf_Reader_readSetting N σ τ) (fun r => SL0 σ0 r.1) := by
  unfold zf_Reader_readSetting
  exact zp_bind fun r1 _ => zp_ite (fun _ => wv_b_Reader_readSetting_25 hs) fun _ => zp_ite (fun _ => zp_ite (fun _ => y_set41 hs fun k => absurd rfl k) fun z => y_set41 hs fun _ => Classical.not_not.mp z) fun _ => wv_b_Reader_readSetting_25 hs
theorem wv_f_Reader_readStatement {σ0 : zS} {N : Nat} {σ : zS} {τ : zT}  (hs : SL0 σ0 σ) : zp (zf_Reader_readStatement N σ τ) (fun r => SL0 σ0 r.1) := by
  unfold zf_Reader_readStatement
  refine zp_ite (fun _ => ?_) fun _ => ?_
  ·
    refine zp_bind (zp_mono (wv_f_Reader_readSetting  hs) fun r25 hr25 => ?_)
    exact zp_some hr25
  ·
    refine zp_ite (fun _ => ?_) fun _ => ?_
    ·
      refine zp_bind (zp_mono (wv_f_Reader_closeBlock  hs) fun r24 hr24 => ?_)
      exact zp_some hr24
    ·
      refine zp_ite (fun _ => ?_) fun _ => ?_
      ·
        refine zp_bind (zp_mono (wv_f_Reader_readLock  hs) fun r23 hr23 => ?_)
        exact zp_some hr23
      ·
        refine zp_ite (fun _ => ?_) fun _ => ?_
        ·
          refine zp_bind (zp_mono (wv_f_Reader_readBranch  hs) fun r22 hr22 => ?_)
          exact zp_some hr22
        ·
          refine zp_ite (fun _ => ?_) fun _ => ?_
          ·
            refine zp_bind (zp_mono (wv_f_Reader_readBranch  hs) fun r21 hr21 => ?_)
            exact zp_some hr21
          ·
            refine zp_ite (fun _ => ?_) fun _ => ?_
            ·
              refine zp_bind (zp_mono (wv_f_Reader_readSignal  hs) fun r20 hr20 => ?_)
              exact zp_some hr20
            ·
              refine zp_ite (fun _ => ?_) fun _ => ?_
              ·
                refine zp_bind (zp_mono (wv_f_Reader_readSignal  hs) fun r19 hr19 => ?_)
                exact zp_some hr19
              ·
                refine zp_ite (fun _ => ?_) fun _ => ?_
                ·
                  refine zp_bind (zp_mono (wv_f_Reader_readThreadStep  hs) fun r18 hr18 => ?_)
                  exact zp_some hr18
                ·
                  refine zp_ite (fun _ => ?_) fun _ => ?_
                  ·
                    refine zp_bind (zp_mono (wv_f_Reader_readThreadStep  hs) fun r17 hr17 => ?_)
                    exact zp_some hr17
                  ·
                    refine zp_ite (fun _ => ?_) fun _ => ?_
                    ·
                      refine zp_bind (zp_mono (wv_f_Reader_readCheck  hs) fun r16 hr16 => ?_)
                      exact zp_some hr16
                    ·
                      refine zp_ite (fun _ => ?_) fun _ => ?_
                      ·
                        refine zp_bind (zp_mono (wv_f_Reader_readStop  hs) fun r15 hr15 => ?_)
                        exact zp_some hr15
                      ·
                        refine zp_ite (fun _ => ?_) fun _ => ?_
                        ·
                          refine zp_bind (zp_mono (wv_f_Reader_readSpan  hs) fun r14 hr14 => ?_)
                          exact zp_some hr14
                        ·
                          refine zp_bind (zp_mono (wv_f_Reader_failHere  hs) fun r13 hr13 => ?_)
                          exact zp_some hr13
