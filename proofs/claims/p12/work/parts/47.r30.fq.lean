-- both answer alike
set_option maxRecDepth 2000
theorem wq_b_Tokens_advance_33 {σ0 : zS} {σ : zS} {τ : zT}  (hs : NSA σ0 σ) : zp (zb_Tokens_advance_33 σ τ) (fun r => NSA σ0 r.1) := by
  unfold zb_Tokens_advance_33
  refine zp_ite (fun _ => ?_) fun _ => ?_
  ·
    exact zp_some hs
  ·
    refine zp_ite (fun _ => ?_) fun _ => ?_
    ·
      exact zp_some hs
    ·
      refine zp_chk fun _ => ?_
      refine zp_chk fun _ => ?_
      refine zp_chk fun _ => ?_
      exact zp_some (NSA.up (by decide) (NSA.up (by decide) hs))
theorem wq_f_Tokens_advance {σ0 : zS} {σ : zS} {τ : zT}  (hs : NSA σ0 σ) : zp (zf_Tokens_advance σ τ) (fun r => NSA σ0 r.1) := by
  unfold zf_Tokens_advance
  refine zp_ite (fun _ => ?_) fun _ => ?_
  ·
    exact wq_b_Tokens_advance_33  hs
  ·
    refine zp_ite (fun _ => ?_) fun _ => ?_
    ·
      exact wq_b_Tokens_advance_33  hs
    ·
      exact wq_b_Tokens_advance_33  (NSA.up (by decide) hs)
theorem wq_f_Reader_expect {σ0 : zS} {σ : zS} {τ : zT} {x1 : Int32}  (hs : NSA σ0 σ) : zp (zf_Reader_expect σ τ x1) (fun r => NSA σ0 r.2.1) := by
  unfold zf_Reader_expect
  refine zp_ite (fun _ => ?_) fun _ => ?_
  ·
    refine zp_bind (zp_mono (wq_f_Tokens_advance  hs) fun r2 hr2 => ?_)
    exact zp_some hr2
  ·
    refine zp_bind (zp_mono (wq_f_Reader_failHere  hs) fun r3 hr3 => ?_)
    refine zp_chk fun _ => ?_
    exact zp_some hr3
theorem wq_b_Reader_hasRoomForStep_18 {σ0 : zS} {σ : zS}  (hs : NSA σ0 σ) : zp (zb_Reader_hasRoomForStep_18 σ) (fun r => NSA σ0 r.2) := by
  unfold zb_Reader_hasRoomForStep_18
  exact zp_some hs
theorem wq_f_Reader_hasRoomForStep {σ0 : zS} {σ : zS}  (hs : NSA σ0 σ) : zp (zf_Reader_hasRoomForStep σ) (fun r => NSA σ0 r.2) := by
  unfold zf_Reader_hasRoomForStep
  refine zp_bind fun r1 _ => ?_
  refine zp_ite (fun _ => ?_) fun _ => ?_
  ·
    exact wq_b_Reader_hasRoomForStep_18  hs
  ·
    refine zp_bind (zp_mono (wq_f_Reader_failHere  hs) fun r3 hr3 => ?_)
    refine zp_ite (fun _ => ?_) fun _ => ?_
    ·
      exact zp_some hr3
    ·
      exact wq_b_Reader_hasRoomForStep_18  hr3
theorem wq_f_Reader_readStop {σ0 : zS} {N : Nat} {σ : zS} {τ : zT}  (hs : NSA σ0 σ) : zp (zf_Reader_readStop N σ τ) (fun r => NSA σ0 r.1) := by
  unfold zf_Reader_readStop
  refine zp_bind (zp_mono (wq_f_Reader_hasRoomForStep  hs) fun r1 hr1 => ?_)
  refine zp_ite (fun _ => ?_) fun _ => ?_
  ·
    exact zp_some hr1
  ·
    refine zp_bind (zp_mono (wq_f_Tokens_advance  hr1) fun r3 hr3 => ?_)
    refine zp_bind (zp_mono (wq_f_Weaver_emit  hr3) fun r4 hr4 => ?_)
    refine zp_bind (zp_mono (wq_f_Reader_expect  hr4) fun r5 hr5 => ?_)
    exact zp_some hr5
theorem wq_b_Reader_failAtWrongToken_63 {σ0 : zS} {N : Nat} {σ : zS} {τ : zT} {s0 : Int32}  (hs : NSA σ0 σ) (hk : ¬ s0 = 0 := by first | assumption | decide) : zp (zb_Reader_failAtWrongToken_63 N σ τ s0) (fun r => NSA σ0 r) := by
  unfold zb_Reader_failAtWrongToken_63
  refine zp_bind (zp_mono (wq_f_Reader_failHere  hs) fun r3 hr3 => ?_)
  exact zp_some hr3
theorem wq_b_Reader_failAtWrongToken_52 {σ0 : zS} {N : Nat} {σ : zS} {τ : zT} {s0 : Int32}  (hs : NSA σ0 σ) : zp (zb_Reader_failAtWrongToken_52 N σ τ s0) (fun r => NSA σ0 r) := by
  unfold zb_Reader_failAtWrongToken_52
  refine zp_ite (fun _ => ?_) fun _ => ?_
  ·
    exact wq_b_Reader_failAtWrongToken_63  hs
  ·
    exact wq_b_Reader_failAtWrongToken_63  hs
theorem wq_b_Reader_failAtWrongToken_51 {σ0 : zS} {N : Nat} {σ : zS} {τ : zT}  (hs : NSA σ0 σ) : zp (zb_Reader_failAtWrongToken_51 N σ τ) (fun r => NSA σ0 r) := by
  unfold zb_Reader_failAtWrongToken_51
  exact wq_b_Reader_failAtWrongToken_52  hs
theorem wq_f_Reader_failAtWrongToken {σ0 : zS} {N : Nat} {σ : zS} {τ : zT}  (hs : NSA σ0 σ) : zp (zf_Reader_failAtWrongToken N σ τ) (fun r => NSA σ0 r) := by
  unfold zf_Reader_failAtWrongToken
  refine zp_ite (fun _ => ?_) fun _ => ?_
  ·
    exact wq_b_Reader_failAtWrongToken_51  hs
  ·
    refine zp_bind fun r4 _ => ?_
    refine zp_ite (fun _ => ?_) fun _ => ?_
    ·
      exact wq_b_Reader_failAtWrongToken_51  hs
    ·
      refine zp_bind fun r6 _ => ?_
      refine zp_ite (fun _ => ?_) fun _ => ?_
      ·
        exact wq_b_Reader_failAtWrongToken_51  hs
      ·
        exact wq_b_Reader_failAtWrongToken_52  hs
theorem wq_b_Reader_takeTestValue_72 {σ0 : zS} {N : Nat} {σ : zS} {τ : zT} {s0 : Int32}  (hs : NSA σ0 σ) : zp (zb_Reader_takeTestValue_72 N σ τ s0) (fun r => NSA σ0 r.2.1) := by
  unfold zb_Reader_takeTestValue_72
  refine zp_bind (zp_mono (wq_f_Tokens_advance  hs) fun r4 hr4 => ?_)
  exact zp_some hr4
theorem wq_b_Reader_takeTestValue_52 {σ0 : zS} {N : Nat} {σ : zS} {τ : zT} {v1 : Int32}  (hs : NSA σ0 σ) : zp (zb_Reader_takeTestValue_52 N σ τ v1) (fun r => NSA σ0 r.2.1) := by
  unfold zb_Reader_takeTestValue_52
  refine zp_ite (fun _ => ?_) fun _ => ?_
  ·
    exact wq_b_Reader_takeTestValue_72  hs
  ·
    exact wq_b_Reader_takeTestValue_72  hs
theorem wq_b_Reader_takeTestValue_29 {σ0 : zS} {N : Nat} {σ : zS} {τ : zT} {s0 : Int32}  (hs : NSA σ0 σ) : zp (zb_Reader_takeTestValue_29 N σ τ s0) (fun r => NSA σ0 r.2.1) := by
  unfold zb_Reader_takeTestValue_29
  refine zp_ite (fun _ => ?_) fun _ => ?_
  ·
    exact wq_b_Reader_takeTestValue_52  hs
  ·
    refine zp_ite (fun _ => ?_) fun _ => ?_
    ·
      exact wq_b_Reader_takeTestValue_52  hs
    ·
      refine zp_bind (zp_mono (wq_f_Reader_failAtWrongToken  hs) fun r6 hr6 => ?_)
      exact zp_some hr6
theorem wq_f_Reader_takeTestValue {σ0 : zS} {N : Nat} {σ : zS} {τ : zT}  (hs : NSA σ0 σ) : zp (zf_Reader_takeTestValue N σ τ) (fun r => NSA σ0 r.2.1) := by
  unfold zf_Reader_takeTestValue
  refine zp_ite (fun _ => ?_) fun _ => ?_
  ·
    exact wq_b_Reader_takeTestValue_29  hs
  ·
    refine zp_bind fun r7 _ => ?_
    exact wq_b_Reader_takeTestValue_29  hs
theorem wq_f_Weaver_work {σ0 : zS} {σ : zS} {x1 : Int32} {x2 : Int32} {x3 : Int32} {x4 : Int32}  (hs : NSA σ0 σ) : zp (zf_Weaver_work σ x1 x2 x3 x4) (fun r => NSA σ0 r) := by
  unfold zf_Weaver_work
  refine zp_bind fun r1 _ => ?_
  refine zp_chk fun _ => ?_
  refine zp_chk fun _ => ?_
  refine zp_chk fun _ => ?_
  refine zp_chk fun _ => ?_
  exact zp_some (NSA.up (by decide) (NSA.up (by decide) (NSA.up (by decide) (NSA.up (by decide) hs))))
theorem y_test52 {σ0 : zS} {N : Nat} {σ : zS} {τ : zT} {v1 v2 v3 : Int32} (hs : NSA σ0 σ) (hk : ¬ v1 = 3 ∧ ¬ v1 = 4) : zp (zb_Reader_readTest_52 N σ τ v1 v2 v3) (fun r => NSA σ0 r.2.1 ∧ (¬ r.1 = 0 → NSL r.2.1)) := by
  unfold zb_Reader_readTest_52
  refine zp_bind (zp_mono (wq_f_Tokens_advance hs) fun r4 h4 => zp_bind (zp_mono (wq_f_Reader_takeTestValue h4) fun r5 h5 => zp_ite (fun _ => zp_bind (zp_mono (y_emitL (x1 := v1) h5 hk) fun r7 h7 => zp_bind (zp_mono (P := fun r => NSL r) ?_ fun r8 h8 => zp_some ⟨h8.a, fun _ => h8⟩))) fun _ => zp_some ⟨h5, fun k => absurd rfl k⟩))
  unfold zf_Weaver_work
  refine zp_bind fun r1 _ => zp_chk fun _ => zp_chk fun _ => zp_chk fun _ => zp_chk fun _ => zp_some ?_
  have e : ∀ q, q ≠ 13 → q ≠ 14 → q ≠ 15 → q ≠ 16 → (zx_up (zx_up (zx_up (zx_up r7 13 r1.toNatClampNeg (-1)) 14 r1.toNatClampNeg v2) 15 r1.toNatClampNeg v3) 16 r1.toNatClampNeg r5.1) q = r7 q := fun q a b c d => by rw [zu_other d, zu_other c, zu_other b, zu_other a]
  exact h7.of (fun q hq => e q (by omega) (by omega) (by omega) (by omega)) (by rw [e 4 (by decide) (by decide) (by decide) (by decide)]) (by rw [e 17 (by decide) (by decide) (by decide) (by decide)]) (by rw [e 18 (by decide) (by decide) (by decide) (by decide)]) fun i _ => by rw [e 29 (by decide) (by decide) (by decide) (by decide)]
theorem y_test {σ0 : zS} {N : Nat} {σ : zS} {τ : zT} {x1 : Int32} (hs : NSA σ0 σ) (hk : ¬ x1 = 3 ∧ ¬ x1 = 4) : zp (zf_Reader_readTest N σ τ x1) (fun r => NSA σ0 r.2.1 ∧ (¬ r.1 = 0 → NSL r.2.1)) := by
  unfold zf_Reader_readTest
  exact zp_bind (zp_mono (wq_f_Reader_takeTestValue hs) fun r1 h1 => zp_ite (fun _ => zp_ite (fun _ => y_test52 h1 hk) fun _ => zp_ite (fun _ => y_test52 h1 hk) fun _ => zp_ite (fun _ => y_test52 h1 hk) fun _ => zp_ite (fun _ => y_test52 h1 hk) fun _ => zp_bind (zp_mono (c_fail (by decide)) fun r h => zp_chk fun _ => zp_some ⟨NSA.bad h.2.1, fun _ => fun w => absurd w h.2.1⟩)) fun _ => zp_some ⟨h1, fun k => absurd rfl k⟩)
theorem wq_f_Reader_readTest {σ0 : zS} {N : Nat} {σ : zS} {τ : zT} {x1 : Int32} (hs : NSA σ0 σ) (hk : ¬ x1 = 3 ∧ ¬ x1 = 4 := by first | assumption | decide) : zp (zf_Reader_readTest N σ τ x1) (fun r => NSA σ0 r.2.1) := zp_mono (y_test hs hk) fun r h => h.1
theorem wq_f_Reader_readCheck {σ0 : zS} {N : Nat} {σ : zS} {τ : zT}  (hs : NSA σ0 σ) : zp (zf_Reader_readCheck N σ τ) (fun r => NSA σ0 r.1) := by
  unfold zf_Reader_readCheck
  refine zp_bind (zp_mono (wq_f_Reader_hasRoomForStep  hs) fun r1 hr1 => ?_)
  refine zp_ite (fun _ => ?_) fun _ => ?_
  ·
    exact zp_some hr1
  ·
    refine zp_bind (zp_mono (wq_f_Tokens_advance  hr1) fun r3 hr3 => ?_)
    refine zp_bind (zp_mono (wq_f_Reader_readTest  hr3) fun r4 hr4 => ?_)
    refine zp_ite (fun _ => ?_) fun _ => ?_
    ·
      exact zp_some hr4
    ·
      refine zp_bind (zp_mono (wq_f_Reader_expect  hr4) fun r6 hr6 => ?_)
      exact zp_some hr6
theorem wq_b_Reader_readThreadStep_126 {σ0 : zS} {N : Nat} {σ : zS} {τ : zT}  (hs : NSA σ0 σ) : zp (zb_Reader_readThreadStep_126 N σ τ) (fun r => NSA σ0 r.1) := by
  unfold zb_Reader_readThreadStep_126
  refine zp_bind (zp_mono (wq_f_Tokens_advance  hs) fun r11 hr11 => ?_)
  refine zp_bind (zp_mono (wq_f_Reader_expect  hr11) fun r12 hr12 => ?_)
  exact zp_some hr12
theorem wq_b_Reader_readThreadStep_54 {σ0 : zS} {N : Nat} {σ : zS} {τ : zT}  (hs : NSA σ0 σ) : zp (zb_Reader_readThreadStep_54 N σ τ) (fun r => NSA σ0 r.1) := by
  unfold zb_Reader_readThreadStep_54
  refine zp_bind (zp_mono (wq_f_Reader_failHere  hs) fun r6 hr6 => ?_)
  exact zp_some hr6
theorem wq_b_Reader_readThreadStep_44 {σ0 : zS} {N : Nat} {σ : zS} {τ : zT} {v1 : Int32} {s0 : Int32}  (hs : NSA σ0 σ) (hk : ¬ v1 = 3 ∧ ¬ v1 = 4 := by first | assumption | decide) : zp (zb_Reader_readThreadStep_44 N σ τ v1 s0) (fun r => NSA σ0 r.1) := by
  unfold zb_Reader_readThreadStep_44
  refine zp_ite (fun _ => ?_) fun _ => ?_
  ·
    exact wq_b_Reader_readThreadStep_54  hs
  ·
    refine zp_ite (fun _ => ?_) fun _ => ?_
    ·
      refine zp_bind (zp_mono (wq_f_Weaver_emit  hs) fun r8 hr8 => ?_)
      refine zp_bind fun r9 _ => ?_
      refine zp_ite (fun _ => ?_) fun _ => ?_
      ·
        exact wq_b_Reader_readThreadStep_126  hr8
      ·
        refine zp_chk fun _ => ?_
        refine zp_chk fun _ => ?_
        exact wq_b_Reader_readThreadStep_126  (NSA.up (by decide) hr8)
    ·
      exact wq_b_Reader_readThreadStep_54  hs
theorem wq_f_Reader_readThreadStep {σ0 : zS} {N : Nat} {σ : zS} {τ : zT} {x1 : Int32}  (hs : NSA σ0 σ) (hk : ¬ x1 = 3 ∧ ¬ x1 = 4 := by first | assumption | decide) : zp (zf_Reader_readThreadStep N σ τ x1) (fun r => NSA σ0 r.1) := by
  unfold zf_Reader_readThreadStep
  refine zp_bind (zp_mono (wq_f_Reader_hasRoomForStep  hs) fun r1 hr1 => ?_)
  refine zp_ite (fun _ => ?_) fun _ => ?_
  ·
    refine zp_bind (zp_mono (wq_f_Tokens_advance  hr1) fun r3 hr3 => ?_)
    refine zp_ite (fun _ => ?_) fun _ => ?_
    ·
      exact wq_b_Reader_readThreadStep_44  hr3
    ·
      refine zp_bind fun r15 _ => ?_
      exact wq_b_Reader_readThreadStep_44  hr3
  ·
    exact zp_some hr1
theorem wq_b_Reader_takeLockName_30 {σ0 : zS} {N : Nat} {σ : zS} {τ : zT} {s0 : Int32}  (hs : NSA σ0 σ) : zp (zb_Reader_takeLockName_30 N σ τ s0) (fun r => NSA σ0 r.2.1) := by
  unfold zb_Reader_takeLockName_30
  refine zp_ite (fun _ => ?_) fun _ => ?_
  ·
    refine zp_bind (zp_mono (wq_f_Reader_failAtWrongToken  hs) fun r3 hr3 => ?_)
    exact zp_some hr3
  ·
    refine zp_bind (zp_mono (wq_f_Tokens_advance  hs) fun r4 hr4 => ?_)
    exact zp_some hr4
theorem wq_f_Reader_takeLockName {σ0 : zS} {N : Nat} {σ : zS} {τ : zT}  (hs : NSA σ0 σ) : zp (zf_Reader_takeLockName N σ τ) (fun r => NSA σ0 r.2.1) := by
  unfold zf_Reader_takeLockName
  refine zp_ite (fun _ => ?_) fun _ => ?_
  ·
    exact wq_b_Reader_takeLockName_30  hs
  ·
    refine zp_bind fun r5 _ => ?_
    exact wq_b_Reader_takeLockName_30  hs
theorem wq_b_Reader_readSignal_75 {σ0 : zS} {N : Nat} {σ : zS} {τ : zT} {v3 : Int32} {s0 : Int32}  (hs : NSA σ0 σ) (hk : ¬ s0 = 3 ∧ ¬ s0 = 4 := by first | assumption | decide) : zp (zb_Reader_readSignal_75 N σ τ v3 s0) (fun r => NSA σ0 r.1) := by
  unfold zb_Reader_readSignal_75
  refine zp_bind (zp_mono (wq_f_Weaver_emit  hs) fun r9 hr9 => ?_)
  refine zp_bind (zp_mono (wq_f_Reader_expect  hr9) fun r10 hr10 => ?_)
  exact zp_some hr10
theorem wq_b_Reader_readSignal_51 {σ0 : zS} {N : Nat} {σ : zS} {τ : zT} {v1 : Int32} {v2 : Int32}  (hs : NSA σ0 σ) (hk : ¬ v1 = 3 ∧ ¬ v1 = 4 := by first | assumption | decide) : zp (zb_Reader_readSignal_51 N σ τ v1 v2) (fun r => NSA σ0 r.1) := by
  unfold zb_Reader_readSignal_51
  refine zp_bind (zp_mono (wq_f_Reader_takeLockName  hs) fun r6 hr6 => ?_)
  refine zp_ite (fun _ => ?_) fun _ => ?_
  ·
    exact zp_some hr6
  ·
    refine zp_ite (fun _ => ?_) fun _ => ?_
    ·
      exact wq_b_Reader_readSignal_75  hr6
    ·
      exact wq_b_Reader_readSignal_75  hr6
theorem wq_b_Reader_readSignal_39 {σ0 : zS} {N : Nat} {σ : zS} {τ : zT} {v1 : Int32} {s0 : Int32}  (hs : NSA σ0 σ) (hk : ¬ v1 = 3 ∧ ¬ v1 = 4 := by first | assumption | decide) : zp (zb_Reader_readSignal_39 N σ τ v1 s0) (fun r => NSA σ0 r.1) := by
  unfold zb_Reader_readSignal_39
  refine zp_ite (fun _ => ?_) fun _ => ?_
  ·
    exact wq_b_Reader_readSignal_51  hs
  ·
    refine zp_bind (zp_mono (wq_f_Tokens_advance  hs) fun r11 hr11 => ?_)
    exact wq_b_Reader_readSignal_51  hr11
theorem wq_b_Reader_readSignal_38 {σ0 : zS} {N : Nat} {σ : zS} {τ : zT} {v1 : Int32}  (hs : NSA σ0 σ) (hk : ¬ v1 = 3 ∧ ¬ v1 = 4 := by first | assumption | decide) : zp (zb_Reader_readSignal_38 N σ τ v1) (fun r => NSA σ0 r.1) := by
  unfold zb_Reader_readSignal_38
  exact wq_b_Reader_readSignal_39  hs
theorem wq_f_Reader_readSignal {σ0 : zS} {N : Nat} {σ : zS} {τ : zT} {x1 : Int32}  (hs : NSA σ0 σ) (hk : ¬ x1 = 3 ∧ ¬ x1 = 4 := by first | assumption | decide) : zp (zf_Reader_readSignal N σ τ x1) (fun r => NSA σ0 r.1) := by
  unfold zf_Reader_readSignal
  refine zp_bind (zp_mono (wq_f_Reader_hasRoomForStep  hs) fun r1 hr1 => ?_)
  refine zp_ite (fun _ => ?_) fun _ => ?_
  ·
    refine zp_bind (zp_mono (wq_f_Tokens_advance  hr1) fun r3 hr3 => ?_)
    refine zp_ite (fun _ => ?_) fun _ => ?_
    ·
      exact wq_b_Reader_readSignal_38  hr3
    ·
      refine zp_ite (fun _ => ?_) fun _ => ?_
      ·
        exact wq_b_Reader_readSignal_38  hr3
      ·
        exact wq_b_Reader_readSignal_39  hr3
  ·
    exact zp_some hr1
theorem wq_f_Names_makeLocal {σ0 : zS} {N : Nat} {σ : zS} {τ : zT} {x1 : Int64}  (hs : NSA σ0 σ) : zp (zf_Names_makeLocal N σ τ x1) (fun r => NSA σ0 r.2.1) := by
  unfold zf_Names_makeLocal
  refine zp_bind fun r1 _ => ?_
  refine zp_ite (fun _ => ?_) fun _ => ?_
  ·
    exact zp_some hs
  ·
    refine zp_ite (fun _ => ?_) fun _ => ?_
    ·
      exact zp_some hs
    ·
      refine zp_ite (fun _ => ?_) fun _ => ?_
      ·
        refine zp_chk fun _ => ?_
        exact zp_some (NSA.u18 (by decide) hs)
      ·
        exact zp_some hs
theorem wq_b_Reader_takeSetValue_121 {σ0 : zS} {N : Nat} {σ : zS} {τ : zT} {s0 : Int32}  (hs : NSA σ0 σ) : zp (zb_Reader_takeSetValue_121 N σ τ s0) (fun r => NSA σ0 r.2.1) := by
  unfold zb_Reader_takeSetValue_121
  refine zp_bind (zp_mono (wq_f_Tokens_advance  hs) fun r7 hr7 => ?_)
  exact zp_some hr7
theorem wq_b_Reader_takeSetValue_102 {σ0 : zS} {N : Nat} {σ : zS} {τ : zT} {v1 : Int32} {v2 : Int32}  (hs : NSA σ0 σ) : zp (zb_Reader_takeSetValue_102 N σ τ v1 v2) (fun r => NSA σ0 r.2.1) := by
  unfold zb_Reader_takeSetValue_102
  refine zp_ite (fun _ => ?_) fun _ => ?_
  ·
    exact wq_b_Reader_takeSetValue_121  hs
  ·
    exact wq_b_Reader_takeSetValue_121  hs
theorem wq_b_Reader_takeSetValue_84 {σ0 : zS} {N : Nat} {σ : zS} {τ : zT} {v1 : Int32} {s0 : Int32}  (hs : NSA σ0 σ) : zp (zb_Reader_takeSetValue_84 N σ τ v1 s0) (fun r => NSA σ0 r.2.1) := by
  unfold zb_Reader_takeSetValue_84
  refine zp_ite (fun _ => ?_) fun _ => ?_
  ·
    exact wq_b_Reader_takeSetValue_102  hs
  ·
    refine zp_ite (fun _ => ?_) fun _ => ?_
    ·
      exact wq_b_Reader_takeSetValue_102  hs
    ·
      refine zp_bind (zp_mono (wq_f_Reader_failHere  hs) fun r9 hr9 => ?_)
      exact zp_some hr9
theorem wq_b_Reader_takeSetValue_62 {σ0 : zS} {N : Nat} {σ : zS} {τ : zT} {v1 : Int32}  (hs : NSA σ0 σ) : zp (zb_Reader_takeSetValue_62 N σ τ v1) (fun r => NSA σ0 r.2.1) := by
  unfold zb_Reader_takeSetValue_62
  refine zp_ite (fun _ => ?_) fun _ => ?_
  ·
    exact wq_b_Reader_takeSetValue_84  hs
  ·
    refine zp_bind (zp_mono (wq_f_Names_makeLocal  hs) fun r10 hr10 => ?_)
    exact wq_b_Reader_takeSetValue_84  hr10
theorem wq_b_Reader_takeSetValue_54 {σ0 : zS} {N : Nat} {σ : zS} {τ : zT}  (hs : NSA σ0 σ) : zp (zb_Reader_takeSetValue_54 N σ τ) (fun r => NSA σ0 r.2.1) := by
  unfold zb_Reader_takeSetValue_54
  refine zp_bind (zp_mono (wq_f_Reader_failHere  hs) fun r13 hr13 => ?_)
  exact zp_some hr13
theorem wq_b_Reader_takeSetValue_32 {σ0 : zS} {N : Nat} {σ : zS} {τ : zT} {v1 : Int32}  (hs : NSA σ0 σ) : zp (zb_Reader_takeSetValue_32 N σ τ v1) (fun r => NSA σ0 r.2.1) := by
  unfold zb_Reader_takeSetValue_32
  refine zp_ite (fun _ => ?_) fun _ => ?_
  ·
    exact wq_b_Reader_takeSetValue_62  hs
  ·
    refine zp_bind fun r11 _ => ?_
    refine zp_ite (fun _ => ?_) fun _ => ?_
    ·
      exact wq_b_Reader_takeSetValue_62  hs
    ·
      exact wq_b_Reader_takeSetValue_54  hs
theorem wq_b_Reader_takeSetValue_16 {σ0 : zS} {N : Nat} {σ : zS} {τ : zT} {s0 : Int32}  (hs : NSA σ0 σ) : zp (zb_Reader_takeSetValue_16 N σ τ s0) (fun r => NSA σ0 r.2.1) := by
  unfold zb_Reader_takeSetValue_16
  refine zp_ite (fun _ => ?_) fun _ => ?_
  ·
    exact wq_b_Reader_takeSetValue_32  hs
  ·
    refine zp_ite (fun _ => ?_) fun _ => ?_
    ·
      exact wq_b_Reader_takeSetValue_54  hs
    ·
      exact wq_b_Reader_takeSetValue_32  hs
theorem wq_f_Reader_takeSetValue {σ0 : zS} {N : Nat} {σ : zS} {τ : zT}  (hs : NSA σ0 σ) : zp (zf_Reader_takeSetValue N σ τ) (fun r => NSA σ0 r.2.1) := by
  unfold zf_Reader_takeSetValue
  refine zp_ite (fun _ => ?_) fun _ => ?_
  ·
    exact wq_b_Reader_takeSetValue_16  hs
  ·
    exact wq_b_Reader_takeSetValue_16  hs
theorem wq_b_Reader_readSum_61 {σ0 : zS} {N : Nat} {σ : zS} {τ : zT} {v1 : Int32} {v2 : Int32} {v3 : Int32} {v4 : Int32}  (hs : NSA σ0 σ) : zp (zb_Reader_readSum_61 N σ τ v1 v2 v3 v4) (fun r => NSA σ0 r.1) := by
  unfold zb_Reader_readSum_61
  refine zp_ite (fun _ => ?_) fun _ => ?_
  ·
    exact zp_some hs
  ·
    refine zp_bind (zp_mono (wq_f_Weaver_emit  hs) fun r7 hr7 => ?_)
    refine zp_bind (zp_mono (wq_f_Weaver_work  hr7) fun r8 hr8 => ?_)
    refine zp_bind (zp_mono (wq_f_Reader_expect  hr8) fun r9 hr9 => ?_)
    exact zp_some hr9
theorem wq_b_Reader_readSum_40 {σ0 : zS} {N : Nat} {σ : zS} {τ : zT} {v1 : Int32} {v2 : Int32}  (hs : NSA σ0 σ) : zp (zb_Reader_readSum_40 N σ τ v1 v2) (fun r => NSA σ0 r.1) := by
  unfold zb_Reader_readSum_40
  refine zp_bind (zp_mono (wq_f_Tokens_advance  hs) fun r4 hr4 => ?_)
  refine zp_bind (zp_mono (wq_f_Reader_takeSetValue  hr4) fun r5 hr5 => ?_)
  exact wq_b_Reader_readSum_61  hr5
theorem wq_f_Reader_readSum {σ0 : zS} {N : Nat} {σ : zS} {τ : zT} {x1 : Int32}  (hs : NSA σ0 σ) : zp (zf_Reader_readSum N σ τ x1) (fun r => NSA σ0 r.1) := by
  unfold zf_Reader_readSum
  refine zp_bind (zp_mono (wq_f_Reader_takeSetValue  hs) fun r1 hr1 => ?_)
  refine zp_ite (fun _ => ?_) fun _ => ?_
  ·
    refine zp_ite (fun _ => ?_) fun _ => ?_
    ·
      exact wq_b_Reader_readSum_40  hr1
    ·
      refine zp_ite (fun _ => ?_) fun _ => ?_
      ·
        exact wq_b_Reader_readSum_61  hr1
      ·
        exact wq_b_Reader_readSum_40  hr1
  ·
    exact zp_some hr1
theorem wq_f_Reader_readRead {σ0 : zS} {N : Nat} {σ : zS} {τ : zT} {x1 : Int32} {x2 : Int32}  (hs : NSA σ0 σ) : zp (zf_Reader_readRead N σ τ x1 x2) (fun r => NSA σ0 r.1) := by
  unfold zf_Reader_readRead
  refine zp_bind (zp_mono (wq_f_Tokens_advance  hs) fun r1 hr1 => ?_)
  refine zp_bind (zp_mono (wq_f_Weaver_emit  hr1) fun r2 hr2 => ?_)
  refine zp_bind (zp_mono (wq_f_Weaver_work  hr2) fun r3 hr3 => ?_)
  refine zp_bind (zp_mono (wq_f_Reader_expect  hr3) fun r4 hr4 => ?_)
  exact zp_some hr4
theorem wq_f_Reader_readWrite {σ0 : zS} {N : Nat} {σ : zS} {τ : zT} {x1 : Int32}  (hs : NSA σ0 σ) : zp (zf_Reader_readWrite N σ τ x1) (fun r => NSA σ0 r.1) := by
  unfold zf_Reader_readWrite
  refine zp_bind (zp_mono (wq_f_Reader_takeSetValue  hs) fun r1 hr1 => ?_)
  refine zp_ite (fun _ => ?_) fun _ => ?_
  ·
    exact zp_some hr1
  ·
    refine zp_bind (zp_mono (wq_f_Weaver_emit  hr1) fun r3 hr3 => ?_)
    refine zp_bind (zp_mono (wq_f_Weaver_work  hr3) fun r4 hr4 => ?_)
    refine zp_bind (zp_mono (wq_f_Reader_expect  hr4) fun r5 hr5 => ?_)
    exact zp_some hr5
theorem wq_b_Reader_readSetting_148 {σ0 : zS} {N : Nat} {σ : zS} {τ : zT} {v2 : Int32} {v3 : Int32} {s0 : Int32}  (hs : NSA σ0 σ) : zp (zb_Reader_readSetting_148 N σ τ v2 v3 s0) (fun r => NSA σ0 r.1) := by
  unfold zb_Reader_readSetting_148
  refine zp_ite (fun _ => ?_) fun _ => ?_
  ·
    refine zp_ite (fun _ => ?_) fun _ => ?_
    ·
      refine zp_bind (zp_mono (wq_f_Reader_readSum  hs) fun r18 hr18 => ?_)
      exact zp_some hr18
    ·
      refine zp_bind (zp_mono (wq_f_Reader_readRead  hs) fun r19 hr19 => ?_)
      exact zp_some hr19
  ·
    refine zp_bind (zp_mono (wq_f_Reader_readWrite  hs) fun r20 hr20 => ?_)
    exact zp_some hr20
theorem wq_b_Reader_readSetting_94 {σ0 : zS} {N : Nat} {σ : zS} {τ : zT}  (hs : NSA σ0 σ) : zp (zb_Reader_readSetting_94 N σ τ) (fun r => NSA σ0 r.1) := by
  unfold zb_Reader_readSetting_94
  refine zp_bind (zp_mono (wq_f_Reader_failHere  hs) fun r9 hr9 => ?_)
  exact zp_some hr9
theorem wq_b_Reader_readSetting_78 {σ0 : zS} {N : Nat} {σ : zS} {τ : zT} {v2 : Int32} {s0 : Int32}  (hs : NSA σ0 σ) : zp (zb_Reader_readSetting_78 N σ τ v2 s0) (fun r => NSA σ0 r.1) := by
  unfold zb_Reader_readSetting_78
  refine zp_ite (fun _ => ?_) fun _ => ?_
  ·
    exact wq_b_Reader_readSetting_94  hs
  ·
    refine zp_bind fun r10 _ => ?_
    refine zp_ite (fun _ => ?_) fun _ => ?_
    ·
      refine zp_bind (zp_mono (wq_f_Tokens_advance  hs) fun r12 hr12 => ?_)
      refine zp_bind (zp_mono (wq_f_Reader_expect  hr12) fun r13 hr13 => ?_)
      refine zp_ite (fun _ => ?_) fun _ => ?_
      ·
        refine zp_ite (fun _ => ?_) fun _ => ?_
        ·
          exact wq_b_Reader_readSetting_148  hr13
        ·
          refine zp_bind fun r21 _ => ?_
          exact wq_b_Reader_readSetting_148  hr13
      ·
        exact zp_some hr13
    ·
      exact wq_b_Reader_readSetting_94  hs
theorem wq_b_Reader_readSetting_41 {σ0 : zS} {N : Nat} {σ : zS} {τ : zT} {v1 : Int32} {s0 : Int32}  (hs : NSA σ0 σ) : zp (zb_Reader_readSetting_41 N σ τ v1 s0) (fun r => NSA σ0 r.1) := by
  unfold zb_Reader_readSetting_41
  refine zp_ite (fun _ => ?_) fun _ => ?_
  ·
    refine zp_bind (zp_mono (wq_f_Names_makeLocal  hs) fun r7 hr7 => ?_)
    exact wq_b_Reader_readSetting_78  hr7
  ·
    refine zp_bind fun r22 _ => ?_
    exact wq_b_Reader_readSetting_78  hs
theorem wq_b_Reader_readSetting_25 {σ0 : zS} {N : Nat} {σ : zS} {τ : zT}  (hs : NSA σ0 σ) : zp (zb_Reader_readSetting_25 N σ τ) (fun r => NSA σ0 r.1) := by
  unfold zb_Reader_readSetting_25
  refine zp_bind (zp_mono (wq_f_Reader_failHere  hs) fun r3 hr3 => ?_)
  exact zp_some hr3
theorem wq_f_Reader_readSetting {σ0 : zS} {N : Nat} {σ : zS} {τ : zT}  (hs : NSA σ0 σ) : zp (zf_Reader_readSetting N σ τ) (fun r => NSA σ0 r.1) := by
  unfold zf_Reader_readSetting
  refine zp_bind fun r1 _ => ?_
  refine zp_ite (fun _ => ?_) fun _ => ?_
  ·
    exact wq_b_Reader_readSetting_25  hs
  ·
    refine zp_ite (fun _ => ?_) fun _ => ?_
    ·
      refine zp_ite (fun _ => ?_) fun _ => ?_
      ·
        exact wq_b_Reader_readSetting_41  hs
      ·
        exact wq_b_Reader_readSetting_41  hs
    ·
      exact wq_b_Reader_readSetting_25  hs
theorem y_branch {σ0 : zS} {N : Nat} {σ : zS} {τ : zT} {x1 x2 : Int32} (hs : NSA σ0 σ) (hk : ¬ x1 = 3 ∧ ¬ x1 = 4) (h2 : ¬ x2 = 1 ∧ ¬ x2 = 0) : zp (zf_Reader_readBranch N σ τ x1 x2) (fun r => NSA σ0 r.1) := by
  unfold zf_Reader_readBranch
  refine zp_bind (zp_mono (wq_f_Reader_hasRoomForStep hs) fun r1 h1 => zp_ite (fun _ => zp_some h1) fun _ => zp_bind (zp_mono (wq_f_Tokens_advance h1) fun r3 h3 => zp_bind (zp_mono (y_test h3 hk) fun r4 h4 => zp_ite (fun _ => zp_some h4.1) fun nz => zp_bind (zp_mono (y_openN (σ0 := σ0) (fun w => ?_) h2.1 h2.2) fun r6 h6 => zp_some h6))))
  obtain ⟨n, t, L, d, nc, nb, hd, p, l⟩ := h4.2 nz w
  exact ⟨n, t, L, d, nc, nb, hd, p, fun _ => l⟩
theorem y_lockName {σ0 : zS} {N : Nat} {σ : zS} {τ : zT} (hs : NSA σ0 σ) : zp (zf_Reader_takeLockName N σ τ) (fun r => NSA σ0 r.2.1 ∧ (r.2.1 17 6 = 0 → r.1 = -1 ∨ (0 ≤ r.1 ∧ r.1 < 4))) := by
  have A : ∀ s0 : Int32, (σ 17 6 = 0 → s0 = -1 ∨ (0 ≤ s0 ∧ s0 < 4)) → zp (zb_Reader_takeLockName_30 N σ τ s0) (fun r => NSA σ0 r.2.1 ∧ (r.2.1 17 6 = 0 → r.1 = -1 ∨ (0 ≤ r.1 ∧ r.1 < 4))) := fun s0 h0 => by
    unfold zb_Reader_takeLockName_30
    refine zp_ite (fun _ => zp_bind (zp_mono (wq_f_Reader_failAtWrongToken hs) fun r3 h3 => zp_some ⟨h3, fun _ => Or.inl rfl⟩)) fun _ => zp_bind (zp_mono (zp_and (wq_f_Tokens_advance hs) y_adv) fun r4 h4 => zp_some ⟨h4.1, fun w => h0 ?_⟩)
    have := congrFun (h4.2 17 (by decide)) 6
    exact this.symm.trans w
  unfold zf_Reader_takeLockName
  refine zp_ite (fun _ => A _ fun _ => Or.inl rfl) fun _ => ?_
  by_cases w : σ 17 6 = 0
  · exact zp_bind (zp_mono (y_numG (hs w).1.2) fun r5 h5 => A _ fun _ => h5)
  · exact zp_bind fun r5 _ => A _ fun k => absurd k w
theorem wq_f_Reader_readLock {σ0 : zS} {N : Nat} {σ : zS} {τ : zT} (hs : NSA σ0 σ) : zp (zf_Reader_readLock N σ τ) (fun r => NSA σ0 r.1) := by
  unfold zf_Reader_readLock
  refine zp_bind (zp_mono (wq_f_Reader_hasRoomForStep hs) fun r1 h1 => zp_ite (fun _ => zp_some h1) fun _ => zp_bind (zp_mono (wq_f_Tokens_advance h1) fun r3 h3 => zp_bind (zp_mono (y_lockName h3) fun r4 h4 => zp_ite (fun _ => zp_some h4.1) fun nn => ?_)))
  by_cases w : r4.2.1 17 6 = 0
  · obtain ⟨n, t, L, d, nc, nb, hd, p⟩ := h4.1 w
    have rg := (h4.2 w).resolve_left nn
    have lt : Int32.ofNat r4.1.toNatClampNeg = r4.1 := zo_mk rg.1
    have ln := z_nat rg.1
    have lb := Int32.lt_iff_toInt_lt.mp rg.2
    have k4 : (4 : Int32).toInt = 4 := rfl
    refine zp_bind (zp_mono (zp_and (wg_f_Weaver_emit (σ0 := r4.2.1) ⟨rfl, rfl, rfl, rfl⟩) (p.emit (k := 3) (x := r4.1) fun w => absurd w (by decide))) fun r6 ⟨f, L', nc', q, _, _⟩ => zp_bind (zp_mono (zp_and y_open17 (y_open1 q.2.1.2.2 q.1.2.2)) fun r7 ⟨f7, g⟩ => zp_some fun w' => ?_))
    obtain ⟨_, f18, f20, f21⟩ := f7 w'
    obtain ⟨d8, r1', e, en⟩ := g w'
    rw [← lt] at q en
    have q1 : NSQ t L' d r1' nc' nb (OUTN 3 (Int32.ofNat r4.1.toNatClampNeg) (nb d)) := q.of (fun q hq => e q (by omega)) (by rw [e 4 (by decide)]) fun i _ => by rw [e 29 (by decide)]
    exact ⟨(n.of (congrFun f.2.1 3) f.2.2.1 f.2.2.2).of (congrFun f18 3) f20 f21, t, L', d + 1, nc', _, by omega, q1.lock (by omega) hd d8 en⟩
  · refine zp_bind (zp_mono (wg_f_Weaver_emit (σ0 := r4.2.1) ⟨rfl, rfl, rfl, rfl⟩) fun r6 f => zp_bind (zp_mono y_open17 fun r7 f7 => zp_some fun w' => ?_))
    exact absurd ((congrFun f.1 6).symm.trans (f7 w').1) w
def NSO (_σ0 σ : zS) : Prop := σ 17 6 = 0 → NML σ ∧ ((∃ t L d nc nb, 0 < d ∧ NSP t L d σ nc nb) ∨ (NSZ σ ∧ σ 29 6 = 0))
theorem NSA.o {σ0 σ : zS} (h : NSA σ0 σ) : NSO σ0 σ := fun w => ⟨(h w).1, Or.inl (h w).2⟩
theorem y_leaveO {σ0 : zS} {N : Nat} {σ : zS} (hs : NSA σ0 σ) : zp (zf_Weaver_leave N σ) (fun r => NSO σ0 r) := by
  by_cases w : σ 17 6 = 0
  · obtain ⟨n, t, L, d, nc, nb, hd, p⟩ := hs w
    refine zp_mono (zp_and (wg_f_Weaver_leave (σ0 := σ) ⟨rfl, rfl, rfl, rfl⟩) (p_leaveN p hd)) fun r ⟨f, g⟩ _ => ⟨n.of (congrFun f.2.1 3) f.2.2.1 f.2.2.2, ?_⟩
    rcases g with ⟨d1, L', nc', q⟩ | ⟨_, z, z6⟩
    · exact Or.inl ⟨t, L', d - 1, nc', nb, by omega, q⟩
    · exact Or.inr ⟨z, z6⟩
  · exact zp_mono (wg_f_Weaver_leave (σ0 := σ) ⟨rfl, rfl, rfl, rfl⟩) fun r f w' => absurd ((congrFun f.1 6).symm.trans w') w
theorem y_close {σ0 : zS} {N : Nat} {σ : zS} {τ : zT} (hs : NSA σ0 σ) : zp (zf_Reader_closeBlock N σ τ) (fun r => NSO σ0 r.1) := by
  have A : ∀ (r : zS) (υ : zT), NSA σ0 r → zp (zb_Reader_closeBlock_70 N r υ) (fun r => NSO σ0 r.1) := fun r υ h => by
    unfold zb_Reader_closeBlock_70
    exact zp_bind (zp_mono (y_leaveO h) fun r5 h5 => zp_some h5)
  have inn : ∀ r : zS, zp (zf_Weaver_innermost r) (fun v => v = 3 → ∀ d : Nat, 0 < d → d ≤ 8 → r 29 6 = Int32.ofNat d → r 30 (d - 1) = 3) := fun r => by
    unfold zf_Weaver_innermost
    refine zp_ite (fun _ => zp_some fun w => absurd w (by decide)) fun _ => zp_ite (fun _ => zp_some fun w => absurd w (by decide)) fun _ => zp_chk fun _ => zp_some fun w d d0 d8 e => ?_
    rw [e, zo_pred d0 (by omega), zo_n (by omega)] at w
    exact w
  have B : ∀ (r : zS) (v1 : Int32), NSA σ0 r → (v1 = 3 → r 17 6 = 0 → ∀ d : Nat, 0 < d → d ≤ 8 → r 29 6 = Int32.ofNat d → r 30 (d - 1) = 3) → zp (zb_Reader_closeBlock_21 N r τ v1) (fun r => NSO σ0 r.1) := fun r v1 h k3 => by
    unfold zb_Reader_closeBlock_21
    refine zp_bind (zp_mono (zp_and (wq_f_Tokens_advance h) y_adv) fun r3 h3 => zp_ite (fun _ => A _ _ h3.1) fun y3 => zp_ite (fun _ => A _ _ h3.1) fun _ => zp_bind (zp_mono (zp_and (wq_f_Tokens_advance h3.1) y_adv) fun r7 h7 => ?_))
    have e7 : ∀ q, q ≠ 25 → r7.1 q = r q := fun q hq => (h7.2 q hq).trans (h3.2 q hq)
    have tn : zp (zf_Weaver_turnToElse r7.1) (fun r8 => NSA σ0 r8) := by
      by_cases w : r7.1 17 6 = 0
      · obtain ⟨n, t, L, d, nc, nb, hd, p⟩ := h7.1 w
        have kk : r7.1 30 (d - 1) = 3 := by
          rw [e7 30 (by decide)]
          refine k3 (Classical.not_not.mp y3) (by rw [← e7 17 (by decide)]; exact w) d hd p.1.2.2 ?_
          rw [← e7 29 (by decide)]
          exact p.2.1.2.2
        refine zp_mono (zp_and (wg_f_Weaver_turnToElse (σ0 := r7.1) ⟨rfl, rfl, rfl, rfl⟩) (p_turnN p hd kk)) fun r8 ⟨f, q⟩ _ => ⟨n.of (congrFun f.2.1 3) f.2.2.1 f.2.2.2, t, L, d, nc, nb, hd, q⟩
      · exact zp_mono (wg_f_Weaver_turnToElse (σ0 := r7.1) ⟨rfl, rfl, rfl, rfl⟩) fun r f w' => absurd ((congrFun f.1 6).symm.trans w') w
    exact zp_bind (zp_mono tn fun r8 h8 => zp_bind (zp_mono (wq_f_Reader_expect h8) fun r9 h9 => zp_some h9.o))
  unfold zf_Reader_closeBlock
  refine zp_bind (zp_mono (inn σ) fun r1 h1 => zp_ite (fun _ => B σ r1 hs fun e _ => h1 e) fun y1 => zp_bind (zp_mono (wq_f_Reader_hasRoomForStep hs) fun r10 h10 => zp_ite (fun _ => B _ r1 h10 fun e => ?_) fun _ => zp_some h10.o))
  rw [Classical.not_not.mp y1] at e
  exact absurd e (by decide)
theorem y_statement {σ0 : zS} {N : Nat} {σ : zS} {τ : zT} (hs : NSA σ0 σ) : zp (zf_Reader_readStatement N σ τ) (fun r => NSO σ0 r.1) := by
  unfold zf_Reader_readStatement
  refine zp_ite (fun _ => zp_bind (zp_mono (wq_f_Reader_readSetting hs) fun r h => zp_some h.o)) fun _ => zp_ite (fun _ => zp_bind (zp_mono (y_close hs) fun r h => zp_some h)) fun _ => zp_ite (fun _ => zp_bind (zp_mono (wq_f_Reader_readLock hs) fun r h => zp_some h.o)) fun _ => zp_ite (fun _ => zp_bind (zp_mono (y_branch hs (by decide) (by decide)) fun r h => zp_some h.o)) fun _ => zp_ite (fun _ => zp_bind (zp_mono (y_branch hs (by decide) (by decide)) fun r h => zp_some h.o)) fun _ => zp_ite (fun _ => zp_bind (zp_mono (wq_f_Reader_readSignal hs) fun r h => zp_some h.o)) fun _ => zp_ite (fun _ => zp_bind (zp_mono (wq_f_Reader_readSignal hs) fun r h => zp_some h.o)) fun _ => zp_ite (fun _ => zp_bind (zp_mono (wq_f_Reader_readThreadStep hs) fun r h => zp_some h.o)) fun _ => zp_ite (fun _ => zp_bind (zp_mono (wq_f_Reader_readThreadStep hs) fun r h => zp_some h.o)) fun _ => zp_ite (fun _ => zp_bind (zp_mono (wq_f_Reader_readCheck hs) fun r h => zp_some h.o)) fun _ => zp_ite (fun _ => zp_bind (zp_mono (wq_f_Reader_readStop hs) fun r h => zp_some h.o)) fun _ => zp_ite (fun _ => zp_bind (zp_mono (wq_f_Reader_readSpan hs) fun r h => zp_some h.o)) fun _ => zp_bind (zp_mono (wq_f_Reader_failHere hs) fun r h => zp_some h.o)
