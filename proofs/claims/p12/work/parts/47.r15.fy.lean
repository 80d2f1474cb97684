-- both answer alike
set_option maxRecDepth 2000
theorem wy_f_Weaver_beginThread {σ0 : zS} {σ : zS} {x1 : Int32}  (hs : Z6 σ0 σ) : zp (zf_Weaver_beginThread σ x1) (fun r => Z6 σ0 r) := by
  unfold zf_Weaver_beginThread
  exact zp_some (Z6.up (by decide) (Z6.up (by decide) (Z6.up (by decide) (Z6.up (by decide) (Z6.up (by decide) (Z6.up (by decide) (Z6.up (by decide) hs)))))))
theorem wy_b_Tokens_advance_33 {σ0 : zS} {σ : zS} {τ : zT}  (hs : Z6 σ0 σ) : zp (zb_Tokens_advance_33 σ τ) (fun r => Z6 σ0 r.1) := by
  unfold zb_Tokens_advance_33
  refine zp_ite (fun _ => ?_) fun _ => ?_
  ·
    exact zp_some hs
  ·
    refine zp_ite (fun _ => ?_) fun _ => ?_
    ·
      exact zp_some hs
    ·
      refine zp_chk fun _ => ?_
      refine zp_chk fun _ => ?_
      refine zp_chk fun _ => ?_
      exact zp_some (Z6.up (by decide) (Z6.up (by decide) hs))
theorem wy_f_Tokens_advance {σ0 : zS} {σ : zS} {τ : zT}  (hs : Z6 σ0 σ) : zp (zf_Tokens_advance σ τ) (fun r => Z6 σ0 r.1) := by
  unfold zf_Tokens_advance
  refine zp_ite (fun _ => ?_) fun _ => ?_
  ·
    exact wy_b_Tokens_advance_33  hs
  ·
    refine zp_ite (fun _ => ?_) fun _ => ?_
    ·
      exact wy_b_Tokens_advance_33  hs
    ·
      exact wy_b_Tokens_advance_33  (Z6.up (by decide) hs)
theorem wy_b_Tokens_takeSign_66 {σ0 : zS} {σ : zS} {s0 : Int32}  (hs : Z6 σ0 σ) : zp (zb_Tokens_takeSign_66 σ s0) (fun r => Z6 σ0 r.2) := by
  unfold zb_Tokens_takeSign_66
  exact zp_some (Z6.up (by decide) hs)
theorem wy_b_Tokens_takeSign_53 {σ0 : zS} {σ : zS} {v1 : Int32}  (hs : Z6 σ0 σ) : zp (zb_Tokens_takeSign_53 σ v1) (fun r => Z6 σ0 r.2) := by
  unfold zb_Tokens_takeSign_53
  refine zp_bind fun r4 _ => ?_
  refine zp_ite (fun _ => ?_) fun _ => ?_
  ·
    exact wy_b_Tokens_takeSign_66  hs
  ·
    exact wy_b_Tokens_takeSign_66  hs
theorem wy_b_Tokens_takeSign_43 {σ0 : zS} {σ : zS} {s0 : Int32}  (hs : Z6 σ0 σ) : zp (zb_Tokens_takeSign_43 σ s0) (fun r => Z6 σ0 r.2) := by
  unfold zb_Tokens_takeSign_43
  exact zp_some (Z6.up (by decide) hs)
theorem wy_b_Tokens_takeSign_12 {σ0 : zS} {σ : zS} {v1 : Int32}  (hs : Z6 σ0 σ) : zp (zb_Tokens_takeSign_12 σ v1) (fun r => Z6 σ0 r.2) := by
  unfold zb_Tokens_takeSign_12
  refine zp_bind fun r2 _ => ?_
  refine zp_ite (fun _ => ?_) fun _ => ?_
  ·
    exact wy_b_Tokens_takeSign_53  hs
  ·
    refine zp_ite (fun _ => ?_) fun _ => ?_
    ·
      exact wy_b_Tokens_takeSign_43  hs
    ·
      exact wy_b_Tokens_takeSign_43  hs
theorem wy_f_Tokens_takeSign {σ0 : zS} {σ : zS} {x1 : Int32}  (hs : Z6 σ0 σ) : zp (zf_Tokens_takeSign σ x1) (fun r => Z6 σ0 r.2) := by
  unfold zf_Tokens_takeSign
  refine zp_ite (fun _ => ?_) fun _ => ?_
  ·
    exact wy_b_Tokens_takeSign_12  hs
  ·
    refine zp_ite (fun _ => ?_) fun _ => ?_
    ·
      exact wy_b_Tokens_takeSign_53  hs
    ·
      exact wy_b_Tokens_takeSign_12  hs
theorem wy_b_Tokens_takeWord_108 {σ0 : zS} {k70 : zS → zT → Int32 → Int32 → Option (Int32 × zS × zT)} {N : Nat} {σ : zS} {τ : zT} {v1 : Int32} {v2 : Int32} (hk70 : ∀ (y0 : zS) (y1 : zT) (y2 : Int32) (y3 : Int32), Z6 σ0 y0 → zp (k70 y0 y1 y2 y3) (fun r => Z6 σ0 r.2.1)) (hs : Z6 σ0 σ) : zp (zb_Tokens_takeWord_108 k70 N σ τ v1 v2) (fun r => Z6 σ0 r.2.1) := by
  unfold zb_Tokens_takeWord_108
  exact hk70 _ _ _ _ hs
theorem wy_b_Tokens_takeWord_70 {σ0 : zS} {N : Nat}  : ∀ (n : Nat) (σ : zS) (τ : zT) (v1 : Int32) (v2 : Int32), Z6 σ0 σ → zp (zb_Tokens_takeWord_70 N n σ τ v1 v2) (fun r => Z6 σ0 r.2.1) := by
  intro n
  induction n with
  | zero => intro _ _ _ _ _; exact zp_none
  | succ n ih =>
    intro σ τ v1 v2 hs
    rw [zb_Tokens_takeWord_70]
    refine zp_ite (fun _ => ?_) fun _ => ?_
    ·
      exact zp_some hs
    ·
      refine zp_ite (fun _ => ?_) fun _ => ?_
      ·
        exact zp_some hs
      ·
        refine zp_chk fun _ => ?_
        refine zp_ite (fun _ => ?_) fun _ => ?_
        ·
          exact wy_b_Tokens_takeWord_108 (ih) hs
        ·
          exact wy_b_Tokens_takeWord_108 (ih) (Z6.up (by decide) hs)
theorem wy_b_Tokens_takeWord_65 {σ0 : zS} {N : Nat} {σ : zS} {τ : zT} {v1 : Int32} {s0 : Int32}  (hs : Z6 σ0 σ) : zp (zb_Tokens_takeWord_65 N σ τ v1 s0) (fun r => Z6 σ0 r.2.1) := by
  unfold zb_Tokens_takeWord_65
  exact wy_b_Tokens_takeWord_70  _ _ _ _ _ (Z6.up (by decide) hs)
theorem wy_b_Tokens_takeWord_48 {σ0 : zS} {N : Nat} {σ : zS} {τ : zT} {v1 : Int32}  (hs : Z6 σ0 σ) : zp (zb_Tokens_takeWord_48 N σ τ v1) (fun r => Z6 σ0 r.2.1) := by
  unfold zb_Tokens_takeWord_48
  refine zp_ite (fun _ => ?_) fun _ => ?_
  ·
    exact wy_b_Tokens_takeWord_65  hs
  ·
    exact wy_b_Tokens_takeWord_65  hs
theorem wy_b_Tokens_takeWord_5 {σ0 : zS} {N : Nat}  : ∀ (n : Nat) (σ : zS) (τ : zT) (v1 : Int32), Z6 σ0 σ → zp (zb_Tokens_takeWord_5 N n σ τ v1) (fun r => Z6 σ0 r.2.1) := by
  intro n
  induction n with
  | zero => intro _ _ _ _; exact zp_none
  | succ n ih =>
    intro σ τ v1 hs
    rw [zb_Tokens_takeWord_5]
    refine zp_ite (fun _ => ?_) fun _ => ?_
    ·
      exact wy_b_Tokens_takeWord_48  hs
    ·
      refine zp_bind fun r7 _ => ?_
      refine zp_bind fun r8 _ => ?_
      refine zp_ite (fun _ => ?_) fun _ => ?_
      ·
        exact wy_b_Tokens_takeWord_48  hs
      ·
        refine zp_bind fun r10 _ => ?_
        exact ih _ _ _ hs
theorem wy_f_Tokens_takeWord {σ0 : zS} {N : Nat} {σ : zS} {τ : zT}  (hs : Z6 σ0 σ) : zp (zf_Tokens_takeWord N σ τ) (fun r => Z6 σ0 r.2.1) := by
  unfold zf_Tokens_takeWord
  exact wy_b_Tokens_takeWord_5  _ _ _ _ hs
theorem wy_b_Tokens_takeNumber_37 {σ0 : zS} {σ : zS} {τ : zT} {s0 : Int32}  (hs : Z6 σ0 σ) : zp (zb_Tokens_takeNumber_37 σ τ s0) (fun r => Z6 σ0 r.2.1) := by
  unfold zb_Tokens_takeNumber_37
  exact zp_some (Z6.up (by decide) hs)
theorem wy_b_Tokens_takeNumber_32 {σ0 : zS} {σ : zS} {τ : zT}  (hs : Z6 σ0 σ) : zp (zb_Tokens_takeNumber_32 σ τ) (fun r => Z6 σ0 r.2.1) := by
  unfold zb_Tokens_takeNumber_32
  exact wy_b_Tokens_takeNumber_37  hs
theorem wy_f_Tokens_takeNumber {σ0 : zS} {σ : zS} {τ : zT} {x1 : Int32}  (hs : Z6 σ0 σ) : zp (zf_Tokens_takeNumber σ τ x1) (fun r => Z6 σ0 r.2.1) := by
  unfold zf_Tokens_takeNumber
  refine zp_ite (fun _ => ?_) fun _ => ?_
  ·
    exact wy_b_Tokens_takeNumber_32  hs
  ·
    refine zp_bind fun r2 _ => ?_
    refine zp_bind fun r3 _ => ?_
    refine zp_ite (fun _ => ?_) fun _ => ?_
    ·
      exact wy_b_Tokens_takeNumber_37  hs
    ·
      exact wy_b_Tokens_takeNumber_32  hs
theorem wy_b_Tokens_takeToken_43 {σ0 : zS} {N : Nat} {σ : zS} {τ : zT}  (hs : Z6 σ0 σ) : zp (zb_Tokens_takeToken_43 N σ τ) (fun r => Z6 σ0 r.2.1) := by
  unfold zb_Tokens_takeToken_43
  refine zp_bind fun r2 _ => ?_
  refine zp_ite (fun _ => ?_) fun _ => ?_
  ·
    refine zp_bind fun r4 _ => ?_
    refine zp_ite (fun _ => ?_) fun _ => ?_
    ·
      refine zp_bind (zp_mono (wy_f_Tokens_takeSign  hs) fun r6 hr6 => ?_)
      exact zp_some hr6
    ·
      refine zp_ite (fun _ => ?_) fun _ => ?_
      ·
        refine zp_bind (zp_mono (wy_f_Tokens_takeWord  hs) fun r8 hr8 => ?_)
        exact zp_some hr8
      ·
        refine zp_bind (zp_mono (wy_f_Tokens_takeNumber  hs) fun r9 hr9 => ?_)
        exact zp_some hr9
  ·
    exact zp_some (Z6.up (by decide) hs)
theorem wy_b_Tokens_takeToken_5 {σ0 : zS} {N : Nat}  : ∀ (n : Nat) (σ : zS) (τ : zT), Z6 σ0 σ → zp (zb_Tokens_takeToken_5 N n σ τ) (fun r => Z6 σ0 r.2.1) := by
  intro n
  induction n with
  | zero => intro _ _ _; exact zp_none
  | succ n ih =>
    intro σ τ hs
    rw [zb_Tokens_takeToken_5]
    refine zp_ite (fun _ => ?_) fun _ => ?_
    ·
      exact wy_b_Tokens_takeToken_43  hs
    ·
      refine zp_bind fun r10 _ => ?_
      refine zp_bind fun r11 _ => ?_
      refine zp_ite (fun _ => ?_) fun _ => ?_
      ·
        exact wy_b_Tokens_takeToken_43  hs
      ·
        exact ih _ _ (Z6.up (by decide) hs)
theorem wy_f_Tokens_takeToken {σ0 : zS} {N : Nat} {σ : zS} {τ : zT} {x1 : Int32}  (hs : Z6 σ0 σ) : zp (zf_Tokens_takeToken N σ τ x1) (fun r => Z6 σ0 r.2.1) := by
  unfold zf_Tokens_takeToken
  exact wy_b_Tokens_takeToken_5  _ _ _ (Z6.up (by decide) hs)
theorem wy_b_Tokens_scan_93 {σ0 : zS} {N : Nat} {σ : zS} {τ : zT}  (hs : Z6 σ0 σ) : zp (zb_Tokens_scan_93 N σ τ) (fun r => Z6 σ0 r.1) := by
  unfold zb_Tokens_scan_93
  refine zp_bind (zp_mono (wy_f_Tokens_advance  (Z6.up (by decide) hs)) fun r2 hr2 => ?_)
  exact zp_some hr2
theorem wy_b_Tokens_scan_19 {σ0 : zS} {N : Nat}  : ∀ (n : Nat) (σ : zS) (τ : zT) (v2 : Int32) (v3 : Int32), Z6 σ0 σ → zp (zb_Tokens_scan_19 N n σ τ v2 v3) (fun r => Z6 σ0 r.1) := by
  intro n
  induction n with
  | zero => intro _ _ _ _ _; exact zp_none
  | succ n ih =>
    intro σ τ v2 v3 hs
    rw [zb_Tokens_scan_19]
    refine zp_ite (fun _ => ?_) fun _ => ?_
    ·
      exact wy_b_Tokens_scan_93  hs
    ·
      refine zp_ite (fun _ => ?_) fun _ => ?_
      ·
        exact wy_b_Tokens_scan_93  hs
      ·
        refine zp_ite (fun _ => ?_) fun _ => ?_
        ·
          exact wy_b_Tokens_scan_93  hs
        ·
          refine zp_bind (zp_mono (wy_f_Tokens_takeToken  hs) fun r5 hr5 => ?_)
          refine zp_chk fun _ => ?_
          refine zp_chk fun _ => ?_
          refine zp_chk fun _ => ?_
          exact ih _ _ _ _ (Z6.up (by decide) (Z6.up (by decide) (Z6.up (by decide) hr5)))
theorem wy_f_Tokens_scan {σ0 : zS} {N : Nat} {σ : zS} {τ : zT} {x1 : Int32}  (hs : Z6 σ0 σ) : zp (zf_Tokens_scan N σ τ x1) (fun r => Z6 σ0 r.1) := by
  unfold zf_Tokens_scan
  exact wy_b_Tokens_scan_19  _ _ _ _ _ (Z6.up (by decide) (Z6.up (by decide) (Z6.up (by decide) hs)))
theorem wy_b_Reader_failHere_17 {σ0 : zS} {σ : zS} {s0 : Int32}  (hs : Z6 σ0 σ) : zp (zb_Reader_failHere_17 σ s0) (fun r => Z6 σ0 r.2) := by
  unfold zb_Reader_failHere_17
  exact zp_some (Z6.up (by decide) (Z6.up (by decide) hs))
theorem wy_f_Reader_failHere {σ0 : zS} {σ : zS} {x1 : Int32}  (hs : Z6 σ0 σ) : zp (zf_Reader_failHere σ x1) (fun r => Z6 σ0 r.2) := by
  unfold zf_Reader_failHere
  refine zp_ite (fun _ => ?_) fun _ => ?_
  ·
    exact wy_b_Reader_failHere_17  hs
  ·
    exact wy_b_Reader_failHere_17  hs
theorem wy_f_Names_forgetLocals {σ0 : zS} {σ : zS}  (hs : Z6 σ0 σ) : zp (zf_Names_forgetLocals σ) (fun r => Z6 σ0 r) := by
  unfold zf_Names_forgetLocals
  exact zp_some (Z6.u18 (by decide) hs)
theorem wy_f_Reader_expect {σ0 : zS} {σ : zS} {τ : zT} {x1 : Int32}  (hs : Z6 σ0 σ) : zp (zf_Reader_expect σ τ x1) (fun r => Z6 σ0 r.2.1) := by
  unfold zf_Reader_expect
  refine zp_ite (fun _ => ?_) fun _ => ?_
  ·
    refine zp_bind (zp_mono (wy_f_Tokens_advance  hs) fun r2 hr2 => ?_)
    exact zp_some hr2
  ·
    refine zp_bind (zp_mono (wy_f_Reader_failHere  hs) fun r3 hr3 => ?_)
    refine zp_chk fun _ => ?_
    exact zp_some hr3
theorem wy_f_Weaver_enter {σ0 : zS} {σ : zS} {x1 : Int32} {x2 : Int32}  (hs : Z6 σ0 σ) : zp (zf_Weaver_enter σ x1 x2) (fun r => Z6 σ0 r) := by
  unfold zf_Weaver_enter
  refine zp_ite (fun _ => ?_) fun _ => ?_
  ·
    exact zp_some hs
  ·
    refine zp_ite (fun _ => ?_) fun _ => ?_
    ·
      refine zp_chk fun _ => ?_
      refine zp_chk fun _ => ?_
      refine zp_chk fun _ => ?_
      refine zp_chk fun _ => ?_
      refine zp_chk fun _ => ?_
      refine zp_ite (fun _ => ?_) fun _ => ?_
      ·
        refine zp_ite (fun _ => ?_) fun _ => ?_
        ·
          exact zp_some (Z6.up (by decide) (Z6.up (by decide) (Z6.up (by decide) (Z6.up (by decide) (Z6.up (by decide) (Z6.up (by decide) hs))))))
        ·
          exact zp_some (Z6.u4 (by decide) (Z6.up (by decide) (Z6.up (by decide) (Z6.up (by decide) (Z6.up (by decide) (Z6.up (by decide) (Z6.up (by decide) (Z6.up (by decide) hs))))))))
      ·
        exact zp_some (Z6.up (by decide) (Z6.up (by decide) (Z6.up (by decide) (Z6.up (by decide) (Z6.up (by decide) (Z6.up (by decide) (Z6.up (by decide) hs)))))))
    ·
      exact zp_some hs
theorem wy_b_Reader_openBlock_33 {σ0 : zS} {σ : zS} {τ : zT} {v1 : Int32} {v2 : Int32}  (hs : Z6 σ0 σ) : zp (zb_Reader_openBlock_33 σ τ v1 v2) (fun r => Z6 σ0 r.1) := by
  unfold zb_Reader_openBlock_33
  refine zp_bind (zp_mono (wy_f_Reader_expect  hs) fun r2 hr2 => ?_)
  refine zp_ite (fun _ => ?_) fun _ => ?_
  ·
    exact zp_some hr2
  ·
    refine zp_bind (zp_mono (wy_f_Weaver_enter  hr2) fun r4 hr4 => ?_)
    exact zp_some hr4
theorem wy_f_Reader_openBlock {σ0 : zS} {σ : zS} {τ : zT} {x1 : Int32} {x2 : Int32}  (hs : Z6 σ0 σ) : zp (zf_Reader_openBlock σ τ x1 x2) (fun r => Z6 σ0 r.1) := by
  unfold zf_Reader_openBlock
  refine zp_ite (fun _ => ?_) fun _ => ?_
  ·
    exact wy_b_Reader_openBlock_33  hs
  ·
    refine zp_ite (fun _ => ?_) fun _ => ?_
    ·
      exact wy_b_Reader_openBlock_33  hs
    ·
      refine zp_bind (zp_mono (wy_f_Reader_failHere  hs) fun r6 hr6 => ?_)
      exact zp_some hr6
theorem wy_f_Reader_tellThread {σ0 : zS} {N : Nat} {σ : zS} {τ : zT} (hs : Z6 σ0 σ) : zp (zf_Reader_tellThread N σ τ) (fun r => Z6 σ0 r.1) := by
  unfold zf_Reader_tellThread
  refine zp_bind (zp_mono y_adv fun r1 h1 => ?_)
  have s1 : Z6 σ0 r1.1 := hs.of (h1 6 (by decide)) (congrFun (h1 4 (by decide)) 2) (congrFun (h1 18 (by decide)) 3) (h1 20 (by decide)) (h1 21 (by decide))
  refine zp_bind (zp_mono (y_tellName s1 fun _ lt => ⟨s1.2.1.1, lt⟩) fun r2 h2 => zp_ite (fun _ => zp_some h2.1) fun nz => ?_)
  have lt : r2.2.1 4 2 < 4 := by rw [h2.2.2]; exact h2.2.1.resolve_left nz
  have fl : zp (zf_Names_forgetLocals r2.2.1) (fun r => Z6 σ0 r ∧ r 4 = r2.2.1 4) := by
    unfold zf_Names_forgetLocals
    exact zp_some ⟨Z6.u18 (by decide) h2.1, zu_other (by decide)⟩
  refine zp_bind (zp_mono fl fun r4 h4 => ?_)
  have bt : zp (zf_Weaver_beginThread r4 (r4 4 2)) (fun r => Z6 σ0 r ∧ r 4 = r4 4) := by
    unfold zf_Weaver_beginThread
    refine zp_some ⟨Z6.up (by decide) (Z6.up (by decide) (Z6.up (by decide) (Z6.up (by decide) (Z6.up (by decide) (Z6.up (by decide) (Z6.up (by decide) h4.1)))))), ?_⟩
    iterate 7 rw [zu_other (by decide)]
  refine zp_bind (zp_mono bt fun r5 h5 => zp_bind (zp_mono (wy_f_Reader_openBlock (h5.1.inc ?_)) fun r6 h6 => zp_some h6))
  rw [h5.2, h4.2]
  exact lt
theorem wy_f_Reader_tellLock {σ0 : zS} {N : Nat} {σ : zS} {τ : zT}  (hs : Z6 σ0 σ) : zp (zf_Reader_tellLock N σ τ) (fun r => Z6 σ0 r.1) := by
  unfold zf_Reader_tellLock
  refine zp_bind (zp_mono (wy_f_Tokens_advance  hs) fun r1 hr1 => ?_)
  refine zp_bind (zp_mono (wy_f_Reader_tellName  hr1) fun r2 hr2 => ?_)
  refine zp_ite (fun _ => ?_) fun _ => ?_
  ·
    exact zp_some hr2
  ·
    refine zp_bind (zp_mono (wy_f_Reader_expect  hr2) fun r4 hr4 => ?_)
    refine zp_ite (fun _ => ?_) fun _ => ?_
    ·
      exact zp_some hr4
    ·
      exact zp_some (Z6.u4 (by decide) hr4)
theorem wy_b_Program_addField_36 {σ0 : zS} {σ : zS}  (hs : Z6 σ0 σ) : zp (zb_Program_addField_36 σ) (fun r => Z6 σ0 r) := by
  unfold zb_Program_addField_36
  exact zp_some (Z6.u4 (by decide) hs)
theorem wy_f_Program_addField {σ0 : zS} {σ : zS} {x1 : Int32} {x2 : Int32}  (hs : Z6 σ0 σ) : zp (zf_Program_addField σ x1 x2) (fun r => Z6 σ0 r) := by
  unfold zf_Program_addField
  refine zp_ite (fun _ => ?_) fun _ => ?_
  ·
    exact wy_b_Program_addField_36  (Z6.u4 (by decide) hs)
  ·
    exact wy_b_Program_addField_36  (Z6.u4 (by decide) (Z6.u4 (by decide) hs))
theorem wy_b_Reader_tellField_64 {σ0 : zS} {N : Nat} {σ : zS} {τ : zT} {v1 : Int32} {v2 : Int32}  (hs : Z6 σ0 σ) : zp (zb_Reader_tellField_64 N σ τ v1 v2) (fun r => Z6 σ0 r.1) := by
  unfold zb_Reader_tellField_64
  refine zp_bind (zp_mono (wy_f_Reader_expect  hs) fun r5 hr5 => ?_)
  refine zp_ite (fun _ => ?_) fun _ => ?_
  ·
    exact zp_some hr5
  ·
    refine zp_bind (zp_mono (wy_f_Program_addField  hr5) fun r7 hr7 => ?_)
    exact zp_some hr7
theorem wy_f_Reader_tellField {σ0 : zS} {N : Nat} {σ : zS} {τ : zT} {x1 : Int32}  (hs : Z6 σ0 σ) : zp (zf_Reader_tellField N σ τ x1) (fun r => Z6 σ0 r.1) := by
  unfold zf_Reader_tellField
  refine zp_bind (zp_mono (wy_f_Tokens_advance  hs) fun r1 hr1 => ?_)
  refine zp_bind (zp_mono (wy_f_Reader_tellName  hr1) fun r2 hr2 => ?_)
  refine zp_ite (fun _ => ?_) fun _ => ?_
  ·
    refine zp_ite (fun _ => ?_) fun _ => ?_
    ·
      exact wy_b_Reader_tellField_64  hr2
    ·
      refine zp_bind (zp_mono (wy_f_Tokens_advance  hr2) fun r8 hr8 => ?_)
      refine zp_bind (zp_mono (wy_f_Reader_expect  hr8) fun r9 hr9 => ?_)
      refine zp_ite (fun _ => ?_) fun _ => ?_
      ·
        exact wy_b_Reader_tellField_64  hr9
      ·
        exact zp_some hr9
  ·
    exact zp_some hr2
theorem wy_b_Reader_readTelling_79 {σ0 : zS} {N : Nat} {σ : zS} {τ : zT} {v1 : Int32}  (hs : Z6 σ0 σ) : zp (zb_Reader_readTelling_79 N σ τ v1) (fun r => Z6 σ0 r.1) := by
  unfold zb_Reader_readTelling_79
  refine zp_ite (fun _ => ?_) fun _ => ?_
  ·
    refine zp_bind (zp_mono (wy_f_Reader_failHere  hs) fun r5 hr5 => ?_)
    exact zp_some hr5
  ·
    refine zp_bind (zp_mono (wy_f_Reader_tellThread  hs) fun r6 hr6 => ?_)
    exact zp_some hr6
theorem wy_b_Reader_readTelling_61 {σ0 : zS} {N : Nat} {σ : zS} {τ : zT} {v1 : Int32} {v2 : Int32}  (hs : Z6 σ0 σ) : zp (zb_Reader_readTelling_61 N σ τ v1 v2) (fun r => Z6 σ0 r.1) := by
  unfold zb_Reader_readTelling_61
  refine zp_ite (fun _ => ?_) fun _ => ?_
  ·
    exact wy_b_Reader_readTelling_79  hs
  ·
    refine zp_ite (fun _ => ?_) fun _ => ?_
    ·
      exact wy_b_Reader_readTelling_79  hs
    ·
      refine zp_bind (zp_mono (wy_f_Reader_tellLock  hs) fun r8 hr8 => ?_)
      exact zp_some hr8
theorem wy_b_Reader_readTelling_55 {σ0 : zS} {N : Nat} {σ : zS} {τ : zT} {s0 : Int32}  (hs : Z6 σ0 σ) : zp (zb_Reader_readTelling_55 N σ τ s0) (fun r => Z6 σ0 r.1) := by
  unfold zb_Reader_readTelling_55
  refine zp_bind (zp_mono (wy_f_Reader_tellField  hs) fun r11 hr11 => ?_)
  exact zp_some hr11
theorem wy_b_Reader_readTelling_42 {σ0 : zS} {N : Nat} {σ : zS} {τ : zT} {v1 : Int32}  (hs : Z6 σ0 σ) : zp (zb_Reader_readTelling_42 N σ τ v1) (fun r => Z6 σ0 r.1) := by
  unfold zb_Reader_readTelling_42
  refine zp_ite (fun _ => ?_) fun _ => ?_
  ·
    exact wy_b_Reader_readTelling_55  hs
  ·
    exact wy_b_Reader_readTelling_55  hs
theorem wy_b_Reader_readTelling_23 {σ0 : zS} {N : Nat} {σ : zS} {τ : zT} {v1 : Int32} {s0 : Int32}  (hs : Z6 σ0 σ) : zp (zb_Reader_readTelling_23 N σ τ v1 s0) (fun r => Z6 σ0 r.1) := by
  unfold zb_Reader_readTelling_23
  refine zp_ite (fun _ => ?_) fun _ => ?_
  ·
    exact wy_b_Reader_readTelling_61  hs
  ·
    refine zp_ite (fun _ => ?_) fun _ => ?_
    ·
      exact wy_b_Reader_readTelling_42  hs
    ·
      refine zp_ite (fun _ => ?_) fun _ => ?_
      ·
        exact wy_b_Reader_readTelling_61  hs
      ·
        exact wy_b_Reader_readTelling_42  hs
theorem wy_f_Reader_readTelling {σ0 : zS} {N : Nat} {σ : zS} {τ : zT}  (hs : Z6 σ0 σ) : zp (zf_Reader_readTelling N σ τ) (fun r => Z6 σ0 r.1) := by
  unfold zf_Reader_readTelling
  refine zp_ite (fun _ => ?_) fun _ => ?_
  ·
    exact wy_b_Reader_readTelling_23  hs
  ·
    exact wy_b_Reader_readTelling_23  hs
theorem wy_f_Reader_readSpan {σ0 : zS} {σ : zS} {τ : zT}  (hs : Z6 σ0 σ) : zp (zf_Reader_readSpan σ τ) (fun r => Z6 σ0 r.1) := by
  unfold zf_Reader_readSpan
  refine zp_bind fun r1 _ => ?_
  refine zp_ite (fun _ => ?_) fun _ => ?_
  ·
    refine zp_ite (fun _ => ?_) fun _ => ?_
    ·
      refine zp_bind (zp_mono (wy_f_Tokens_advance  hs) fun r4 hr4 => ?_)
      refine zp_bind (zp_mono (wy_f_Reader_openBlock  hr4) fun r5 hr5 => ?_)
      exact zp_some hr5
    ·
      refine zp_bind (zp_mono (wy_f_Reader_failHere  hs) fun r6 hr6 => ?_)
      exact zp_some hr6
  ·
    refine zp_bind (zp_mono (wy_f_Reader_failHere  hs) fun r7 hr7 => ?_)
    exact zp_some hr7
theorem wy_b_Reader_hasRoomForStep_18 {σ0 : zS} {σ : zS}  (hs : Z6 σ0 σ) : zp (zb_Reader_hasRoomForStep_18 σ) (fun r => Z6 σ0 r.2) := by
  unfold zb_Reader_hasRoomForStep_18
  exact zp_some hs
theorem wy_f_Reader_hasRoomForStep {σ0 : zS} {σ : zS}  (hs : Z6 σ0 σ) : zp (zf_Reader_hasRoomForStep σ) (fun r => Z6 σ0 r.2) := by
  unfold zf_Reader_hasRoomForStep
  refine zp_bind fun r1 _ => ?_
  refine zp_ite (fun _ => ?_) fun _ => ?_
  ·
    exact wy_b_Reader_hasRoomForStep_18  hs
  ·
    refine zp_bind (zp_mono (wy_f_Reader_failHere  hs) fun r3 hr3 => ?_)
    refine zp_ite (fun _ => ?_) fun _ => ?_
    ·
      exact zp_some hr3
    ·
      exact wy_b_Reader_hasRoomForStep_18  hr3
theorem wy_b_Weaver_closeOpen_70 {σ0 : zS} {k2 : zS → Int32 → Int32 → Option (zS)} {N : Nat} {σ : zS} {v1 : Int32} {v2 : Int32} (hk2 : ∀ (y0 : zS) (y1 : Int32) (y2 : Int32), Z6 σ0 y0 → zp (k2 y0 y1 y2) (fun r => Z6 σ0 r)) (hs : Z6 σ0 σ) : zp (zb_Weaver_closeOpen_70 k2 N σ v1 v2) (fun r => Z6 σ0 r) := by
  unfold zb_Weaver_closeOpen_70
  exact hk2 _ _ _ hs
theorem wy_b_Weaver_closeOpen_49 {σ0 : zS} {k2 : zS → Int32 → Int32 → Option (zS)} {N : Nat} {σ : zS} {v1 : Int32} {v2 : Int32} {v3 : Int32} (hk2 : ∀ (y0 : zS) (y1 : Int32) (y2 : Int32), Z6 σ0 y0 → zp (k2 y0 y1 y2) (fun r => Z6 σ0 r)) (hs : Z6 σ0 σ) : zp (zb_Weaver_closeOpen_49 k2 N σ v1 v2 v3) (fun r => Z6 σ0 r) := by
  unfold zb_Weaver_closeOpen_49
  refine zp_ite (fun _ => ?_) fun _ => ?_
  ·
    exact wy_b_Weaver_closeOpen_70 (hk2) hs
  ·
    refine zp_chk fun _ => ?_
    exact wy_b_Weaver_closeOpen_70 (hk2) (Z6.up (by decide) hs)
theorem wy_b_Weaver_closeOpen_2 {σ0 : zS} {N : Nat}  : ∀ (n : Nat) (σ : zS) (v1 : Int32) (v2 : Int32), Z6 σ0 σ → zp (zb_Weaver_closeOpen_2 N n σ v1 v2) (fun r => Z6 σ0 r) := by
  intro n
  induction n with
  | zero => intro _ _ _ _; exact zp_none
  | succ n ih =>
    intro σ v1 v2 hs
    rw [zb_Weaver_closeOpen_2]
    refine zp_ite (fun _ => ?_) fun _ => ?_
    ·
      exact zp_some (Z6.up (by decide) (Z6.up (by decide) hs))
    ·
      refine zp_ite (fun _ => ?_) fun _ => ?_
      ·
        exact wy_b_Weaver_closeOpen_70 (ih) hs
      ·
        refine zp_ite (fun _ => ?_) fun _ => ?_
        ·
          exact wy_b_Weaver_closeOpen_70 (ih) hs
        ·
          refine zp_ite (fun _ => ?_) fun _ => ?_
          ·
            exact wy_b_Weaver_closeOpen_49 (ih) hs
          ·
            refine zp_chk fun _ => ?_
            exact wy_b_Weaver_closeOpen_49 (ih) (Z6.up (by decide) hs)
theorem wy_f_Weaver_closeOpen {σ0 : zS} {N : Nat} {σ : zS} {x1 : Int32}  (hs : Z6 σ0 σ) : zp (zf_Weaver_closeOpen N σ x1) (fun r => Z6 σ0 r) := by
  unfold zf_Weaver_closeOpen
  exact wy_b_Weaver_closeOpen_2  _ _ _ _ hs
theorem wy_f_Program_addStep {σ0 : zS} {σ : zS} {x1 : Int32} {x2 : Int32} {x3 : Int32} {x4 : Int32} {x5 : Int32}  (hs : Z6 σ0 σ) : zp (zf_Program_addStep σ x1 x2 x3 x4 x5) (fun r => Z6 σ0 r.2) := by
  unfold zf_Program_addStep
  refine zp_ite (fun _ => ?_) fun _ => ?_
  ·
    exact zp_some hs
  ·
    refine zp_ite (fun _ => ?_) fun _ => ?_
    ·
      exact zp_some hs
    ·
      refine zp_chk fun _ => ?_
      refine zp_ite (fun _ => ?_) fun _ => ?_
      ·
        exact zp_some hs
      ·
        refine zp_chk fun _ => ?_
        refine zp_ite (fun _ => ?_) fun _ => ?_
        ·
          refine zp_chk fun _ => ?_
          refine zp_chk fun _ => ?_
          refine zp_chk fun _ => ?_
          refine zp_chk fun _ => ?_
          refine zp_chk fun _ => ?_
          refine zp_chk fun _ => ?_
          refine zp_chk fun _ => ?_
          refine zp_chk fun _ => ?_
          refine zp_chk fun _ => ?_
          exact zp_some (Z6.up (by decide) (Z6.up (by decide) (Z6.up (by decide) (Z6.up (by decide) (Z6.up (by decide) (Z6.up (by decide) (Z6.u4 (by decide) (Z6.up (by decide) hs))))))))
        ·
          exact zp_some hs
theorem wy_b_Weaver_emit_59 {σ0 : zS} {N : Nat} {σ : zS} {s0 : Int32}  (hs : Z6 σ0 σ) : zp (zb_Weaver_emit_59 N σ s0) (fun r => Z6 σ0 r) := by
  unfold zb_Weaver_emit_59
  exact zp_some (Z6.up (by decide) hs)
theorem wy_f_Weaver_emit {σ0 : zS} {N : Nat} {σ : zS} {x1 : Int32} {x2 : Int32}  (hs : Z6 σ0 σ) : zp (zf_Weaver_emit N σ x1 x2) (fun r => Z6 σ0 r) := by
  unfold zf_Weaver_emit
  refine zp_bind fun r1 _ => ?_
  refine zp_bind (zp_mono (wy_f_Weaver_closeOpen  hs) fun r2 hr2 => ?_)
  refine zp_bind (zp_mono (wy_f_Program_addStep  hr2) fun r3 hr3 => ?_)
  refine zp_ite (fun _ => ?_) fun _ => ?_
  ·
    exact wy_b_Weaver_emit_59  (Z6.up (by decide) hr3)
  ·
    exact wy_b_Weaver_emit_59  (Z6.up (by decide) hr3)
theorem wy_f_Reader_readStop {σ0 : zS} {N : Nat} {σ : zS} {τ : zT}  (hs : Z6 σ0 σ) : zp (zf_Reader_readStop N σ τ) (fun r => Z6 σ0 r.1) := by
  unfold zf_Reader_readStop
  refine zp_bind (zp_mono (wy_f_Reader_hasRoomForStep  hs) fun r1 hr1 => ?_)
  refine zp_ite (fun _ => ?_) fun _ => ?_
  ·
    exact zp_some hr1
  ·
    refine zp_bind (zp_mono (wy_f_Tokens_advance  hr1) fun r3 hr3 => ?_)
    refine zp_bind (zp_mono (wy_f_Weaver_emit  hr3) fun r4 hr4 => ?_)
    refine zp_bind (zp_mono (wy_f_Reader_expect  hr4) fun r5 hr5 => ?_)
    exact zp_some hr5
theorem wy_b_Reader_failAtWrongToken_63 {σ0 : zS} {N : Nat} {σ : zS} {τ : zT} {s0 : Int32}  (hs : Z6 σ0 σ) : zp (zb_Reader_failAtWrongToken_63 N σ τ s0) (fun r => Z6 σ0 r) := by
  unfold zb_Reader_failAtWrongToken_63
  refine zp_bind (zp_mono (wy_f_Reader_failHere  hs) fun r3 hr3 => ?_)
  exact zp_some hr3
theorem wy_b_Reader_failAtWrongToken_52 {σ0 : zS} {N : Nat} {σ : zS} {τ : zT} {s0 : Int32}  (hs : Z6 σ0 σ) : zp (zb_Reader_failAtWrongToken_52 N σ τ s0) (fun r => Z6 σ0 r) := by
  unfold zb_Reader_failAtWrongToken_52
  refine zp_ite (fun _ => ?_) fun _ => ?_
  ·
    exact wy_b_Reader_failAtWrongToken_63  hs
  ·
    exact wy_b_Reader_failAtWrongToken_63  hs
theorem wy_b_Reader_failAtWrongToken_51 {σ0 : zS} {N : Nat} {σ : zS} {τ : zT}  (hs : Z6 σ0 σ) : zp (zb_Reader_failAtWrongToken_51 N σ τ) (fun r => Z6 σ0 r) := by
  unfold zb_Reader_failAtWrongToken_51
  exact wy_b_Reader_failAtWrongToken_52  hs
theorem wy_f_Reader_failAtWrongToken {σ0 : zS} {N : Nat} {σ : zS} {τ : zT}  (hs : Z6 σ0 σ) : zp (zf_Reader_failAtWrongToken N σ τ) (fun r => Z6 σ0 r) := by
  unfold zf_Reader_failAtWrongToken
  refine zp_ite (fun _ => ?_) fun _ => ?_
  ·
    exact wy_b_Reader_failAtWrongToken_51  hs
  ·
    refine zp_bind fun r4 _ => ?_
    refine zp_ite (fun _ => ?_) fun _ => ?_
    ·
      exact wy_b_Reader_failAtWrongToken_51  hs
    ·
      refine zp_bind fun r6 _ => ?_
      refine zp_ite (fun _ => ?_) fun _ => ?_
      ·
        exact wy_b_Reader_failAtWrongToken_51  hs
      ·
        exact wy_b_Reader_failAtWrongToken_52  hs
theorem wy_b_Reader_takeTestValue_72 {σ0 : zS} {N : Nat} {σ : zS} {τ : zT} {s0 : Int32}  (hs : Z6 σ0 σ) : zp (zb_Reader_takeTestValue_72 N σ τ s0) (fun r => Z6 σ0 r.2.1) := by
  unfold zb_Reader_takeTestValue_72
  refine zp_bind (zp_mono (wy_f_Tokens_advance  hs) fun r4 hr4 => ?_)
  exact zp_some hr4
theorem wy_b_Reader_takeTestValue_52 {σ0 : zS} {N : Nat} {σ : zS} {τ : zT} {v1 : Int32}  (hs : Z6 σ0 σ) : zp (zb_Reader_takeTestValue_52 N σ τ v1) (fun r => Z6 σ0 r.2.1) := by
  unfold zb_Reader_takeTestValue_52
  refine zp_ite (fun _ => ?_) fun _ => ?_
  ·
    exact wy_b_Reader_takeTestValue_72  hs
  ·
    exact wy_b_Reader_takeTestValue_72  hs
theorem wy_b_Reader_takeTestValue_29 {σ0 : zS} {N : Nat} {σ : zS} {τ : zT} {s0 : Int32}  (hs : Z6 σ0 σ) : zp (zb_Reader_takeTestValue_29 N σ τ s0) (fun r => Z6 σ0 r.2.1) := by
  unfold zb_Reader_takeTestValue_29
  refine zp_ite (fun _ => ?_) fun _ => ?_
  ·
    exact wy_b_Reader_takeTestValue_52  hs
  ·
    refine zp_ite (fun _ => ?_) fun _ => ?_
    ·
      exact wy_b_Reader_takeTestValue_52  hs
    ·
      refine zp_bind (zp_mono (wy_f_Reader_failAtWrongToken  hs) fun r6 hr6 => ?_)
      exact zp_some hr6
theorem wy_f_Reader_takeTestValue {σ0 : zS} {N : Nat} {σ : zS} {τ : zT}  (hs : Z6 σ0 σ) : zp (zf_Reader_takeTestValue N σ τ) (fun r => Z6 σ0 r.2.1) := by
  unfold zf_Reader_takeTestValue
  refine zp_ite (fun _ => ?_) fun _ => ?_
  ·
    exact wy_b_Reader_takeTestValue_29  hs
  ·
    refine zp_bind fun r7 _ => ?_
    exact wy_b_Reader_takeTestValue_29  hs
theorem wy_f_Weaver_work {σ0 : zS} {σ : zS} {x1 : Int32} {x2 : Int32} {x3 : Int32} {x4 : Int32}  (hs : Z6 σ0 σ) : zp (zf_Weaver_work σ x1 x2 x3 x4) (fun r => Z6 σ0 r) := by
  unfold zf_Weaver_work
  refine zp_bind fun r1 _ => ?_
  refine zp_chk fun _ => ?_
  refine zp_chk fun _ => ?_
  refine zp_chk fun _ => ?_
  refine zp_chk fun _ => ?_
  exact zp_some (Z6.up (by decide) (Z6.up (by decide) (Z6.up (by decide) (Z6.up (by decide) hs))))
theorem wy_b_Reader_readTest_52 {σ0 : zS} {N : Nat} {σ : zS} {τ : zT} {v1 : Int32} {v2 : Int32} {v3 : Int32}  (hs : Z6 σ0 σ) : zp (zb_Reader_readTest_52 N σ τ v1 v2 v3) (fun r => Z6 σ0 r.2.1) := by
  unfold zb_Reader_readTest_52
  refine zp_bind (zp_mono (wy_f_Tokens_advance  hs) fun r4 hr4 => ?_)
  refine zp_bind (zp_mono (wy_f_Reader_takeTestValue  hr4) fun r5 hr5 => ?_)
  refine zp_ite (fun _ => ?_) fun _ => ?_
  ·
    refine zp_bind (zp_mono (wy_f_Weaver_emit  hr5) fun r7 hr7 => ?_)
    refine zp_bind (zp_mono (wy_f_Weaver_work  hr7) fun r8 hr8 => ?_)
    exact zp_some hr8
  ·
    exact zp_some hr5
theorem wy_f_Reader_readTest {σ0 : zS} {N : Nat} {σ : zS} {τ : zT} {x1 : Int32}  (hs : Z6 σ0 σ) : zp (zf_Reader_readTest N σ τ x1) (fun r => Z6 σ0 r.2.1) := by
  unfold zf_Reader_readTest
  refine zp_bind (zp_mono (wy_f_Reader_takeTestValue  hs) fun r1 hr1 => ?_)
  refine zp_ite (fun _ => ?_) fun _ => ?_
  ·
    refine zp_ite (fun _ => ?_) fun _ => ?_
    ·
      exact wy_b_Reader_readTest_52  hr1
    ·
      refine zp_ite (fun _ => ?_) fun _ => ?_
      ·
        exact wy_b_Reader_readTest_52  hr1
      ·
        refine zp_ite (fun _ => ?_) fun _ => ?_
        ·
          exact wy_b_Reader_readTest_52  hr1
        ·
          refine zp_ite (fun _ => ?_) fun _ => ?_
          ·
            exact wy_b_Reader_readTest_52  hr1
          ·
            refine zp_bind (zp_mono (wy_f_Reader_failHere  hr1) fun r12 hr12 => ?_)
            refine zp_chk fun _ => ?_
            exact zp_some hr12
  ·
    exact zp_some hr1
theorem wy_f_Reader_readCheck {σ0 : zS} {N : Nat} {σ : zS} {τ : zT}  (hs : Z6 σ0 σ) : zp (zf_Reader_readCheck N σ τ) (fun r => Z6 σ0 r.1) := by
  unfold zf_Reader_readCheck
  refine zp_bind (zp_mono (wy_f_Reader_hasRoomForStep  hs) fun r1 hr1 => ?_)
  refine zp_ite (fun _ => ?_) fun _ => ?_
  ·
    exact zp_some hr1
  ·
    refine zp_bind (zp_mono (wy_f_Tokens_advance  hr1) fun r3 hr3 => ?_)
    refine zp_bind (zp_mono (wy_f_Reader_readTest  hr3) fun r4 hr4 => ?_)
    refine zp_ite (fun _ => ?_) fun _ => ?_
    ·
      exact zp_some hr4
    ·
      refine zp_bind (zp_mono (wy_f_Reader_expect  hr4) fun r6 hr6 => ?_)
      exact zp_some hr6
theorem wy_b_Reader_readThreadStep_126 {σ0 : zS} {N : Nat} {σ : zS} {τ : zT}  (hs : Z6 σ0 σ) : zp (zb_Reader_readThreadStep_126 N σ τ) (fun r => Z6 σ0 r.1) := by
  unfold zb_Reader_readThreadStep_126
  refine zp_bind (zp_mono (wy_f_Tokens_advance  hs) fun r11 hr11 => ?_)
  refine zp_bind (zp_mono (wy_f_Reader_expect  hr11) fun r12 hr12 => ?_)
  exact zp_some hr12
theorem wy_b_Reader_readThreadStep_54 {σ0 : zS} {N : Nat} {σ : zS} {τ : zT}  (hs : Z6 σ0 σ) : zp (zb_Reader_readThreadStep_54 N σ τ) (fun r => Z6 σ0 r.1) := by
  unfold zb_Reader_readThreadStep_54
  refine zp_bind (zp_mono (wy_f_Reader_failHere  hs) fun r6 hr6 => ?_)
  exact zp_some hr6
theorem wy_b_Reader_readThreadStep_44 {σ0 : zS} {N : Nat} {σ : zS} {τ : zT} {v1 : Int32} {s0 : Int32}  (hs : Z6 σ0 σ) : zp (zb_Reader_readThreadStep_44 N σ τ v1 s0) (fun r => Z6 σ0 r.1) := by
  unfold zb_Reader_readThreadStep_44
  refine zp_ite (fun _ => ?_) fun _ => ?_
  ·
    exact wy_b_Reader_readThreadStep_54  hs
  ·
    refine zp_ite (fun _ => ?_) fun _ => ?_
    ·
      refine zp_bind (zp_mono (wy_f_Weaver_emit  hs) fun r8 hr8 => ?_)
      refine zp_bind fun r9 _ => ?_
      refine zp_ite (fun _ => ?_) fun _ => ?_
      ·
        exact wy_b_Reader_readThreadStep_126  hr8
      ·
        refine zp_chk fun _ => ?_
        refine zp_chk fun _ => ?_
        exact wy_b_Reader_readThreadStep_126  (Z6.up (by decide) hr8)
    ·
      exact wy_b_Reader_readThreadStep_54  hs
theorem wy_f_Reader_readThreadStep {σ0 : zS} {N : Nat} {σ : zS} {τ : zT} {x1 : Int32}  (hs : Z6 σ0 σ) : zp (zf_Reader_readThreadStep N σ τ x1) (fun r => Z6 σ0 r.1) := by
  unfold zf_Reader_readThreadStep
  refine zp_bind (zp_mono (wy_f_Reader_hasRoomForStep  hs) fun r1 hr1 => ?_)
  refine zp_ite (fun _ => ?_) fun _ => ?_
  ·
    refine zp_bind (zp_mono (wy_f_Tokens_advance  hr1) fun r3 hr3 => ?_)
    refine zp_ite (fun _ => ?_) fun _ => ?_
    ·
      exact wy_b_Reader_readThreadStep_44  hr3
    ·
      refine zp_bind fun r15 _ => ?_
      exact wy_b_Reader_readThreadStep_44  hr3
  ·
    exact zp_some hr1
theorem wy_b_Reader_takeLockName_30 {σ0 : zS} {N : Nat} {σ : zS} {τ : zT} {s0 : Int32}  (hs : Z6 σ0 σ) : zp (zb_Reader_takeLockName_30 N σ τ s0) (fun r => Z6 σ0 r.2.1) := by
  unfold zb_Reader_takeLockName_30
  refine zp_ite (fun _ => ?_) fun _ => ?_
  ·
    refine zp_bind (zp_mono (wy_f_Reader_failAtWrongToken  hs) fun r3 hr3 => ?_)
    exact zp_some hr3
  ·
    refine zp_bind (zp_mono (wy_f_Tokens_advance  hs) fun r4 hr4 => ?_)
    exact zp_some hr4
theorem wy_f_Reader_takeLockName {σ0 : zS} {N : Nat} {σ : zS} {τ : zT}  (hs : Z6 σ0 σ) : zp (zf_Reader_takeLockName N σ τ) (fun r => Z6 σ0 r.2.1) := by
  unfold zf_Reader_takeLockName
  refine zp_ite (fun _ => ?_) fun _ => ?_
  ·
    exact wy_b_Reader_takeLockName_30  hs
  ·
    refine zp_bind fun r5 _ => ?_
    exact wy_b_Reader_takeLockName_30  hs
theorem wy_b_Reader_readSignal_75 {σ0 : zS} {N : Nat} {σ : zS} {τ : zT} {v3 : Int32} {s0 : Int32}  (hs : Z6 σ0 σ) : zp (zb_Reader_readSignal_75 N σ τ v3 s0) (fun r => Z6 σ0 r.1) := by
  unfold zb_Reader_readSignal_75
  refine zp_bind (zp_mono (wy_f_Weaver_emit  hs) fun r9 hr9 => ?_)
  refine zp_bind (zp_mono (wy_f_Reader_expect  hr9) fun r10 hr10 => ?_)
  exact zp_some hr10
theorem wy_b_Reader_readSignal_51 {σ0 : zS} {N : Nat} {σ : zS} {τ : zT} {v1 : Int32} {v2 : Int32}  (hs : Z6 σ0 σ) : zp (zb_Reader_readSignal_51 N σ τ v1 v2) (fun r => Z6 σ0 r.1) := by
  unfold zb_Reader_readSignal_51
  refine zp_bind (zp_mono (wy_f_Reader_takeLockName  hs) fun r6 hr6 => ?_)
  refine zp_ite (fun _ => ?_) fun _ => ?_
  ·
    exact zp_some hr6
  ·
    refine zp_ite (fun _ => ?_) fun _ => ?_
    ·
      exact wy_b_Reader_readSignal_75  hr6
    ·
      exact wy_b_Reader_readSignal_75  hr6
theorem wy_b_Reader_readSignal_39 {σ0 : zS} {N : Nat} {σ : zS} {τ : zT} {v1 : Int32} {s0 : Int32}  (hs : Z6 σ0 σ) : zp (zb_Reader_readSignal_39 N σ τ v1 s0) (fun r => Z6 σ0 r.1) := by
  unfold zb_Reader_readSignal_39
  refine zp_ite (fun _ => ?_) fun _ => ?_
  ·
    exact wy_b_Reader_readSignal_51  hs
  ·
    refine zp_bind (zp_mono (wy_f_Tokens_advance  hs) fun r11 hr11 => ?_)
    exact wy_b_Reader_readSignal_51  hr11
theorem wy_b_Reader_readSignal_38 {σ0 : zS} {N : Nat} {σ : zS} {τ : zT} {v1 : Int32}  (hs : Z6 σ0 σ) : zp (zb_Reader_readSignal_38 N σ τ v1) (fun r => Z6 σ0 r.1) := by
  unfold zb_Reader_readSignal_38
  exact wy_b_Reader_readSignal_39  hs
theorem wy_f_Reader_readSignal {σ0 : zS} {N : Nat} {σ : zS} {τ : zT} {x1 : Int32}  (hs : Z6 σ0 σ) : zp (zf_Reader_readSignal N σ τ x1) (fun r => Z6 σ0 r.1) := by
  unfold zf_Reader_readSignal
  refine zp_bind (zp_mono (wy_f_Reader_hasRoomForStep  hs) fun r1 hr1 => ?_)
  refine zp_ite (fun _ => ?_) fun _ => ?_
  ·
    refine zp_bind (zp_mono (wy_f_Tokens_advance  hr1) fun r3 hr3 => ?_)
    refine zp_ite (fun _ => ?_) fun _ => ?_
    ·
      exact wy_b_Reader_readSignal_38  hr3
    ·
      refine zp_ite (fun _ => ?_) fun _ => ?_
      ·
        exact wy_b_Reader_readSignal_38  hr3
      ·
        exact wy_b_Reader_readSignal_39  hr3
  ·
    exact zp_some hr1
theorem wy_f_Reader_readBranch {σ0 : zS} {N : Nat} {σ : zS} {τ : zT} {x1 : Int32} {x2 : Int32}  (hs : Z6 σ0 σ) : zp (zf_Reader_readBranch N σ τ x1 x2) (fun r => Z6 σ0 r.1) := by
  unfold zf_Reader_readBranch
  refine zp_bind (zp_mono (wy_f_Reader_hasRoomForStep  hs) fun r1 hr1 => ?_)
  refine zp_ite (fun _ => ?_) fun _ => ?_
  ·
    exact zp_some hr1
  ·
    refine zp_bind (zp_mono (wy_f_Tokens_advance  hr1) fun r3 hr3 => ?_)
    refine zp_bind (zp_mono (wy_f_Reader_readTest  hr3) fun r4 hr4 => ?_)
    refine zp_ite (fun _ => ?_) fun _ => ?_
    ·
      exact zp_some hr4
    ·
      refine zp_bind (zp_mono (wy_f_Reader_openBlock  hr4) fun r6 hr6 => ?_)
      exact zp_some hr6
theorem wy_f_Reader_readLock {σ0 : zS} {N : Nat} {σ : zS} {τ : zT}  (hs : Z6 σ0 σ) : zp (zf_Reader_readLock N σ τ) (fun r => Z6 σ0 r.1) := by
  unfold zf_Reader_readLock
  refine zp_bind (zp_mono (wy_f_Reader_hasRoomForStep  hs) fun r1 hr1 => ?_)
  refine zp_ite (fun _ => ?_) fun _ => ?_
  ·
    exact zp_some hr1
  ·
    refine zp_bind (zp_mono (wy_f_Tokens_advance  hr1) fun r3 hr3 => ?_)
    refine zp_bind (zp_mono (wy_f_Reader_takeLockName  hr3) fun r4 hr4 => ?_)
    refine zp_ite (fun _ => ?_) fun _ => ?_
    ·
      exact zp_some hr4
    ·
      refine zp_bind (zp_mono (wy_f_Weaver_emit  hr4) fun r6 hr6 => ?_)
      refine zp_bind (zp_mono (wy_f_Reader_openBlock  hr6) fun r7 hr7 => ?_)
      exact zp_some hr7
theorem wy_b_Weaver_finishThread_67 {σ0 : zS} {k19 : zS → Int32 → Int32 → Option (zS)} {N : Nat} {σ : zS} {v1 : Int32} {v2 : Int32} (hk19 : ∀ (y0 : zS) (y1 : Int32) (y2 : Int32), Z6 σ0 y0 → zp (k19 y0 y1 y2) (fun r => Z6 σ0 r)) (hs : Z6 σ0 σ) : zp (zb_Weaver_finishThread_67 k19 N σ v1 v2) (fun r => Z6 σ0 r) := by
  unfold zb_Weaver_finishThread_67
  exact hk19 _ _ _ hs
theorem wy_b_Weaver_finishThread_19 {σ0 : zS} {N : Nat}  : ∀ (n : Nat) (σ : zS) (v1 : Int32) (v2 : Int32), Z6 σ0 σ → zp (zb_Weaver_finishThread_19 N n σ v1 v2) (fun r => Z6 σ0 r) := by
  intro n
  induction n with
  | zero => intro _ _ _ _; exact zp_none
  | succ n ih =>
    intro σ v1 v2 hs
    rw [zb_Weaver_finishThread_19]
    refine zp_ite (fun _ => ?_) fun _ => ?_
    ·
      exact zp_some hs
    ·
      refine zp_ite (fun _ => ?_) fun _ => ?_
      ·
        exact zp_some hs
      ·
        refine zp_bind fun r5 _ => ?_
        refine zp_chk fun _ => ?_
        refine zp_ite (fun _ => ?_) fun _ => ?_
        ·
          exact wy_b_Weaver_finishThread_67 (ih) hs
        ·
          refine zp_chk fun _ => ?_
          exact wy_b_Weaver_finishThread_67 (ih) (Z6.up (by decide) hs)
theorem wy_f_Weaver_finishThread {σ0 : zS} {N : Nat} {σ : zS}  (hs : Z6 σ0 σ) : zp (zf_Weaver_finishThread N σ) (fun r => Z6 σ0 r) := by
  unfold zf_Weaver_finishThread
  refine zp_bind fun r1 _ => ?_
  refine zp_bind (zp_mono (wy_f_Weaver_closeOpen  hs) fun r2 hr2 => ?_)
  exact wy_b_Weaver_finishThread_19  _ _ _ _ hr2
theorem wy_b_Weaver_leave_166 {σ0 : zS} {N : Nat} {σ : zS} {v1 : Int32}  (hs : Z6 σ0 σ) : zp (zb_Weaver_leave_166 N σ v1) (fun r => Z6 σ0 r) := by
  unfold zb_Weaver_leave_166
  exact zp_some (Z6.up (by decide) hs)
theorem wy_f_Weaver_leave {σ0 : zS} {N : Nat} {σ : zS}  (hs : Z6 σ0 σ) : zp (zf_Weaver_leave N σ) (fun r => Z6 σ0 r) := by
  unfold zf_Weaver_leave
  refine zp_ite (fun _ => ?_) fun _ => ?_
  ·
    exact zp_some hs
  ·
    refine zp_ite (fun _ => ?_) fun _ => ?_
    ·
      refine zp_chk fun _ => ?_
      refine zp_chk fun _ => ?_
      refine zp_ite (fun _ => ?_) fun _ => ?_
      ·
        refine zp_bind (zp_mono (wy_f_Weaver_finishThread  hs) fun r15 hr15 => ?_)
        exact wy_b_Weaver_leave_166  hr15
      ·
        refine zp_ite (fun _ => ?_) fun _ => ?_
        ·
          refine zp_bind (zp_mono (wy_f_Weaver_emit  hs) fun r13 hr13 => ?_)
          refine zp_chk fun _ => ?_
          exact wy_b_Weaver_leave_166  (Z6.up (by decide) hr13)
        ·
          refine zp_ite (fun _ => ?_) fun _ => ?_
          ·
            exact wy_b_Weaver_leave_166  (Z6.up (by decide) hs)
          ·
            refine zp_ite (fun _ => ?_) fun _ => ?_
            ·
              exact wy_b_Weaver_leave_166  (Z6.up (by decide) hs)
            ·
              refine zp_ite (fun _ => ?_) fun _ => ?_
              ·
                refine zp_chk fun _ => ?_
                refine zp_chk fun _ => ?_
                exact wy_b_Weaver_leave_166  (Z6.up (by decide) (Z6.up (by decide) hs))
              ·
                refine zp_bind (zp_mono (wy_f_Weaver_closeOpen  hs) fun r10 hr10 => ?_)
                exact wy_b_Weaver_leave_166  (Z6.up (by decide) hr10)
    ·
      exact zp_some hs
theorem wy_f_Weaver_turnToElse {σ0 : zS} {σ : zS}  (hs : Z6 σ0 σ) : zp (zf_Weaver_turnToElse σ) (fun r => Z6 σ0 r) := by
  unfold zf_Weaver_turnToElse
  refine zp_ite (fun _ => ?_) fun _ => ?_
  ·
    exact zp_some hs
  ·
    refine zp_ite (fun _ => ?_) fun _ => ?_
    ·
      exact zp_some hs
    ·
      refine zp_chk fun _ => ?_
      refine zp_chk fun _ => ?_
      refine zp_chk fun _ => ?_
      refine zp_chk fun _ => ?_
      exact zp_some (Z6.up (by decide) (Z6.up (by decide) (Z6.up (by decide) (Z6.up (by decide) (Z6.up (by decide) hs)))))
theorem wy_b_Reader_closeBlock_70 {σ0 : zS} {N : Nat} {σ : zS} {τ : zT}  (hs : Z6 σ0 σ) : zp (zb_Reader_closeBlock_70 N σ τ) (fun r => Z6 σ0 r.1) := by
  unfold zb_Reader_closeBlock_70
  refine zp_bind (zp_mono (wy_f_Weaver_leave  hs) fun r5 hr5 => ?_)
  exact zp_some hr5
theorem wy_b_Reader_closeBlock_21 {σ0 : zS} {N : Nat} {σ : zS} {τ : zT} {v1 : Int32}  (hs : Z6 σ0 σ) : zp (zb_Reader_closeBlock_21 N σ τ v1) (fun r => Z6 σ0 r.1) := by
  unfold zb_Reader_closeBlock_21
  refine zp_bind (zp_mono (wy_f_Tokens_advance  hs) fun r3 hr3 => ?_)
  refine zp_ite (fun _ => ?_) fun _ => ?_
  ·
    exact wy_b_Reader_closeBlock_70  hr3
  ·
    refine zp_ite (fun _ => ?_) fun _ => ?_
    ·
      exact wy_b_Reader_closeBlock_70  hr3
    ·
      refine zp_bind (zp_mono (wy_f_Tokens_advance  hr3) fun r7 hr7 => ?_)
      refine zp_bind (zp_mono (wy_f_Weaver_turnToElse  hr7) fun r8 hr8 => ?_)
      refine zp_bind (zp_mono (wy_f_Reader_expect  hr8) fun r9 hr9 => ?_)
      exact zp_some hr9
theorem wy_f_Reader_closeBlock {σ0 : zS} {N : Nat} {σ : zS} {τ : zT}  (hs : Z6 σ0 σ) : zp (zf_Reader_closeBlock N σ τ) (fun r => Z6 σ0 r.1) := by
  unfold zf_Reader_closeBlock
  refine zp_bind fun r1 _ => ?_
  refine zp_ite (fun _ => ?_) fun _ => ?_
  ·
    exact wy_b_Reader_closeBlock_21  hs
  ·
    refine zp_bind (zp_mono (wy_f_Reader_hasRoomForStep  hs) fun r10 hr10 => ?_)
    refine zp_ite (fun _ => ?_) fun _ => ?_
    ·
      exact wy_b_Reader_closeBlock_21  hr10
    ·
      exact zp_some hr10
theorem wy_f_Names_makeLocal {σ0 : zS} {N : Nat} {σ : zS} {τ : zT} {x1 : Int64}  (hs : Z6 σ0 σ) : zp (zf_Names_makeLocal N σ τ x1) (fun r => Z6 σ0 r.2.1) := by
  unfold zf_Names_makeLocal
  refine zp_bind fun r1 _ => ?_
  refine zp_ite (fun _ => ?_) fun _ => ?_
  ·
    exact zp_some hs
  ·
    refine zp_ite (fun _ => ?_) fun _ => ?_
    ·
      exact zp_some hs
    ·
      refine zp_ite (fun _ => ?_) fun _ => ?_
      ·
        refine zp_chk fun _ => ?_
        exact zp_some (Z6.u18 (by decide) hs)
      ·
        exact zp_some hs
theorem wy_b_Reader_takeSetValue_121 {σ0 : zS} {N : Nat} {σ : zS} {τ : zT} {s0 : Int32}  (hs : Z6 σ0 σ) : zp (zb_Reader_takeSetValue_121 N σ τ s0) (fun r => Z6 σ0 r.2.1) := by
  unfold zb_Reader_takeSetValue_121
  refine zp_bind (zp_mono (wy_f_Tokens_advance  hs) fun r7 hr7 => ?_)
  exact zp_some hr7
theorem wy_b_Reader_takeSetValue_102 {σ0 : zS} {N : Nat} {σ : zS} {τ : zT} {v1 : Int32} {v2 : Int32}  (hs : Z6 σ0 σ) : zp (zb_Reader_takeSetValue_102 N σ τ v1 v2) (fun r => Z6 σ0 r.2.1) := by
  unfold zb_Reader_takeSetValue_102
  refine zp_ite (fun _ => ?_) fun _ => ?_
  ·
    exact wy_b_Reader_takeSetValue_121  hs
  ·
    exact wy_b_Reader_takeSetValue_121  hs
theorem wy_b_Reader_takeSetValue_84 {σ0 : zS} {N : Nat} {σ : zS} {τ : zT} {v1 : Int32} {s0 : Int32}  (hs : Z6 σ0 σ) : zp (zb_Reader_takeSetValue_84 N σ τ v1 s0) (fun r => Z6 σ0 r.2.1) := by
  unfold zb_Reader_takeSetValue_84
  refine zp_ite (fun _ => ?_) fun _ => ?_
  ·
    exact wy_b_Reader_takeSetValue_102  hs
  ·
    refine zp_ite (fun _ => ?_) fun _ => ?_
    ·
      exact wy_b_Reader_takeSetValue_102  hs
    ·
      refine zp_bind (zp_mono (wy_f_Reader_failHere  hs) fun r9 hr9 => ?_)
      exact zp_some hr9
theorem wy_b_Reader_takeSetValue_62 {σ0 : zS} {N : Nat} {σ : zS} {τ : zT} {v1 : Int32}  (hs : Z6 σ0 σ) : zp (zb_Reader_takeSetValue_62 N σ τ v1) (fun r => Z6 σ0 r.2.1) := by
  unfold zb_Reader_takeSetValue_62
  refine zp_ite (fun _ => ?_) fun _ => ?_
  ·
    exact wy_b_Reader_takeSetValue_84  hs
  ·
    refine zp_bind (zp_mono (wy_f_Names_makeLocal  hs) fun r10 hr10 => ?_)
    exact wy_b_Reader_takeSetValue_84  hr10
theorem wy_b_Reader_takeSetValue_54 {σ0 : zS} {N : Nat} {σ : zS} {τ : zT}  (hs : Z6 σ0 σ) : zp (zb_Reader_takeSetValue_54 N σ τ) (fun r => Z6 σ0 r.2.1) := by
  unfold zb_Reader_takeSetValue_54
  refine zp_bind (zp_mono (wy_f_Reader_failHere  hs) fun r13 hr13 => ?_)
  exact zp_some hr13
theorem wy_b_Reader_takeSetValue_32 {σ0 : zS} {N : Nat} {σ : zS} {τ : zT} {v1 : Int32}  (hs : Z6 σ0 σ) : zp (zb_Reader_takeSetValue_32 N σ τ v1) (fun r => Z6 σ0 r.2.1) := by
  unfold zb_Reader_takeSetValue_32
  refine zp_ite (fun _ => ?_) fun _ => ?_
  ·
    exact wy_b_Reader_takeSetValue_62  hs
  ·
    refine zp_bind fun r11 _ => ?_
    refine zp_ite (fun _ => ?_) fun _ => ?_
    ·
      exact wy_b_Reader_takeSetValue_62  hs
    ·
      exact wy_b_Reader_takeSetValue_54  hs
theorem wy_b_Reader_takeSetValue_16 {σ0 : zS} {N : Nat} {σ : zS} {τ : zT} {s0 : Int32}  (hs : Z6 σ0 σ) : zp (zb_Reader_takeSetValue_16 N σ τ s0) (fun r => Z6 σ0 r.2.1) := by
  unfold zb_Reader_takeSetValue_16
  refine zp_ite (fun _ => ?_) fun _ => ?_
  ·
    exact wy_b_Reader_takeSetValue_32  hs
  ·
    refine zp_ite (fun _ => ?_) fun _ => ?_
    ·
      exact wy_b_Reader_takeSetValue_54  hs
    ·
      exact wy_b_Reader_takeSetValue_32  hs
theorem wy_f_Reader_takeSetValue {σ0 : zS} {N : Nat} {σ : zS} {τ : zT}  (hs : Z6 σ0 σ) : zp (zf_Reader_takeSetValue N σ τ) (fun r => Z6 σ0 r.2.1) := by
  unfold zf_Reader_takeSetValue
  refine zp_ite (fun _ => ?_) fun _ => ?_
  ·
    exact wy_b_Reader_takeSetValue_16  hs
  ·
    exact wy_b_Reader_takeSetValue_16  hs
theorem wy_b_Reader_readSum_61 {σ0 : zS} {N : Nat} {σ : zS} {τ : zT} {v1 : Int32} {v2 : Int32} {v3 : Int32} {v4 : Int32}  (hs : Z6 σ0 σ) : zp (zb_Reader_readSum_61 N σ τ v1 v2 v3 v4) (fun r => Z6 σ0 r.1) := by
  unfold zb_Reader_readSum_61
  refine zp_ite (fun _ => ?_) fun _ => ?_
  ·
    exact zp_some hs
  ·
    refine zp_bind (zp_mono (wy_f_Weaver_emit  hs) fun r7 hr7 => ?_)
    refine zp_bind (zp_mono (wy_f_Weaver_work  hr7) fun r8 hr8 => ?_)
    refine zp_bind (zp_mono (wy_f_Reader_expect  hr8) fun r9 hr9 => ?_)
    exact zp_some hr9
theorem wy_b_Reader_readSum_40 {σ0 : zS} {N : Nat} {σ : zS} {τ : zT} {v1 : Int32} {v2 : Int32}  (hs : Z6 σ0 σ) : zp (zb_Reader_readSum_40 N σ τ v1 v2) (fun r => Z6 σ0 r.1) := by
  unfold zb_Reader_readSum_40
  refine zp_bind (zp_mono (wy_f_Tokens_advance  hs) fun r4 hr4 => ?_)
  refine zp_bind (zp_mono (wy_f_Reader_takeSetValue  hr4) fun r5 hr5 => ?_)
  exact wy_b_Reader_readSum_61  hr5
theorem wy_f_Reader_readSum {σ0 : zS} {N : Nat} {σ : zS} {τ : zT} {x1 : Int32}  (hs : Z6 σ0 σ) : zp (zf_Reader_readSum N σ τ x1) (fun r => Z6 σ0 r.1) := by
  unfold zf_Reader_readSum
  refine zp_bind (zp_mono (wy_f_Reader_takeSetValue  hs) fun r1 hr1 => ?_)
  refine zp_ite (fun _ => ?_) fun _ => ?_
  ·
    refine zp_ite (fun _ => ?_) fun _ => ?_
    ·
      exact wy_b_Reader_readSum_40  hr1
    ·
      refine zp_ite (fun _ => ?_) fun _ => ?_
      ·
        exact wy_b_Reader_readSum_61  hr1
      ·
        exact wy_b_Reader_readSum_40  hr1
  ·
    exact zp_some hr1
theorem wy_f_Reader_readRead {σ0 : zS} {N : Nat} {σ : zS} {τ : zT} {x1 : Int32} {x2 : Int32}  (hs : Z6 σ0 σ) : zp (zf_Reader_readRead N σ τ x1 x2) (fun r => Z6 σ0 r.1) := by
  unfold zf_Reader_readRead
  refine zp_bind (zp_mono (wy_f_Tokens_advance  hs) fun r1 hr1 => ?_)
  refine zp_bind (zp_mono (wy_f_Weaver_emit  hr1) fun r2 hr2 => ?_)
  refine zp_bind (zp_mono (wy_f_Weaver_work  hr2) fun r3 hr3 => ?_)
  refine zp_bind (zp_mono (wy_f_Reader_expect  hr3) fun r4 hr4 => ?_)
  exact zp_some hr4
theorem wy_f_Reader_readWrite {σ0 : zS} {N : Nat} {σ : zS} {τ : zT} {x1 : Int32}  (hs : Z6 σ0 σ) : zp (zf_Reader_readWrite N σ τ x1) (fun r => Z6 σ0 r.1) := by
  unfold zf_Reader_readWrite
  refine zp_bind (zp_mono (wy_f_Reader_takeSetValue  hs) fun r1 hr1 => ?_)
  refine zp_ite (fun _ => ?_) fun _ => ?_
  ·
    exact zp_some hr1
  ·
    refine zp_bind (zp_mono (wy_f_Weaver_emit  hr1) fun r3 hr3 => ?_)
    refine zp_bind (zp_mono (wy_f_Weaver_work  hr3) fun r4 hr4 => ?_)
    refine zp_bind (zp_mono (wy_f_Reader_expect  hr4) fun r5 hr5 => ?_)
    exact zp_some hr5
theorem wy_b_Reader_readSetting_148 {σ0 : zS} {N : Nat} {σ : zS} {τ : zT} {v2 : Int32} {v3 : Int32} {s0 : Int32}  (hs : Z6 σ0 σ) : zp (zb_Reader_readSetting_148 N σ τ v2 v3 s0) (fun r => Z6 σ0 r.1) := by
  unfold zb_Reader_readSetting_148
  refine zp_ite (fun _ => ?_) fun _ => ?_
  ·
    refine zp_ite (fun _ => ?_) fun _ => ?_
    ·
      refine zp_bind (zp_mono (wy_f_Reader_readSum  hs) fun r18 hr18 => ?_)
      exact zp_some hr18
    ·
      refine zp_bind (zp_mono (wy_f_Reader_readRead  hs) fun r19 hr19 => ?_)
      exact zp_some hr19
  ·
    refine zp_bind (zp_mono (wy_f_Reader_readWrite  hs) fun r20 hr20 => ?_)
    exact zp_some hr20
theorem wy_b_Reader_readSetting_94 {σ0 : zS} {N : Nat} {σ : zS} {τ : zT}  (hs : Z6 σ0 σ) : zp (zb_Reader_readSetting_94 N σ τ) (fun r => Z6 σ0 r.1) := by
  unfold zb_Reader_readSetting_94
  refine zp_bind (zp_mono (wy_f_Reader_failHere  hs) fun r9 hr9 => ?_)
  exact zp_some hr9
theorem wy_b_Reader_readSetting_78 {σ0 : zS} {N : Nat} {σ : zS} {τ : zT} {v2 : Int32} {s0 : Int32}  (hs : Z6 σ0 σ) : zp (zb_Reader_readSetting_78 N σ τ v2 s0) (fun r => Z6 σ0 r.1) := by
  unfold zb_Reader_readSetting_78
  refine zp_ite (fun _ => ?_) fun _ => ?_
  ·
    exact wy_b_Reader_readSetting_94  hs
  ·
    refine zp_bind fun r10 _ => ?_
    refine zp_ite (fun _ => ?_) fun _ => ?_
    ·
      refine zp_bind (zp_mono (wy_f_Tokens_advance  hs) fun r12 hr12 => ?_)
      refine zp_bind (zp_mono (wy_f_Reader_expect  hr12) fun r13 hr13 => ?_)
      refine zp_ite (fun _ => ?_) fun _ => ?_
      ·
        refine zp_ite (fun _ => ?_) fun _ => ?_
        ·
          exact wy_b_Reader_readSetting_148  hr13
        ·
          refine zp_bind fun r21 _ => ?_
          exact wy_b_Reader_readSetting_148  hr13
      ·
        exact zp_some hr13
    ·
      exact wy_b_Reader_readSetting_94  hs
theorem wy_b_Reader_readSetting_41 {σ0 : zS} {N : Nat} {σ : zS} {τ : zT} {v1 : Int32} {s0 : Int32}  (hs : Z6 σ0 σ) : zp (zb_Reader_readSetting_41 N σ τ v1 s0) (fun r => Z6 σ0 r.1) := by
  unfold zb_Reader_readSetting_41
  refine zp_ite (fun _ => ?_) fun _ => ?_
  ·
    refine zp_bind (zp_mono (wy_f_Names_makeLocal  hs) fun r7 hr7 => ?_)
    exact wy_b_Reader_readSetting_78  hr7
  ·
    refine zp_bind fun r22 _ => ?_
    exact wy_b_Reader_readSetting_78  hs
theorem wy_b_Reader_readSetting_25 {σ0 : zS} {N : Nat} {σ : zS} {τ : zT}  (hs : Z6 σ0 σ) : zp (zb_Reader_readSetting_25 N σ τ) (fun r => Z6 σ0 r.1) := by
  unfold zb_Reader_readSetting_25
  refine zp_bind (zp_mono (wy_f_Reader_failHere  hs) fun r3 hr3 => ?_)
  exact zp_some hr3
theorem wy_f_Reader_readSetting {σ0 : zS} {N : Nat} {σ : zS} {τ : zT}  (hs : Z6 σ0 σ) : zp (zf_Reader_readSetting N σ τ) (fun r => Z6 σ0 r.1) := by
  unfold zf_Reader_readSetting
  refine zp_bind fun r1 _ => ?_
  refine zp_ite (fun _ => ?_) fun _ => ?_
  ·
    exact wy_b_Reader_readSetting_25  hs
  ·
    refine zp_ite (fun _ => ?_) fun _ => ?_
    ·
      refine zp_ite (fun _ => ?_) fun _ => ?_
      ·
        exact wy_b_Reader_readSetting_41  hs
      ·
        exact wy_b_Reader_readSetting_41  hs
    ·
      exact wy_b_Reader_readSetting_25  hs
theorem wy_f_Reader_readStatement {σ0 : zS} {N : Nat} {σ : zS} {τ : zT}  (hs : Z6 σ0 σ) : zp (zf_Reader_readStatement N σ τ) (fun r => Z6 σ0 r.1) := by
  unfold zf_Reader_readStatement
  refine zp_ite (fun _ => ?_) fun _ => ?_
  ·
    refine zp_bind (zp_mono (wy_f_Reader_readSetting  hs) fun r25 hr25 => ?_)
    exact zp_some hr25
  ·
    refine zp_ite (fun _ => ?_) fun _ => ?_
    ·
      refine zp_bind (zp_mono (wy_f_Reader_closeBlock  hs) fun r24 hr24 => ?_)
      exact zp_some hr24
    ·
      refine zp_ite (fun _ => ?_) fun _ => ?_
      ·
        refine zp_bind (zp_mono (wy_f_Reader_readLock  hs) fun r23 hr23 => ?_)
        exact zp_some hr23
      ·
        refine zp_ite (fun _ => ?_) fun _ => ?_
        ·
          refine zp_bind (zp_mono (wy_f_Reader_readBranch  hs) fun r22 hr22 => ?_)
          exact zp_some hr22
        ·
          refine zp_ite (fun _ => ?_) fun _ => ?_
          ·
            refine zp_bind (zp_mono (wy_f_Reader_readBranch  hs) fun r21 hr21 => ?_)
            exact zp_some hr21
          ·
            refine zp_ite (fun _ => ?_) fun _ => ?_
            ·
              refine zp_bind (zp_mono (wy_f_Reader_readSignal  hs) fun r20 hr20 => ?_)
              exact zp_some hr20
            ·
              refine zp_ite (fun _ => ?_) fun _ => ?_
              ·
                refine zp_bind (zp_mono (wy_f_Reader_readSignal  hs) fun r19 hr19 => ?_)
                exact zp_some hr19
              ·
                refine zp_ite (fun _ => ?_) fun _ => ?_
                ·
                  refine zp_bind (zp_mono (wy_f_Reader_readThreadStep  hs) fun r18 hr18 => ?_)
                  exact zp_some hr18
                ·
                  refine zp_ite (fun _ => ?_) fun _ => ?_
                  ·
                    refine zp_bind (zp_mono (wy_f_Reader_readThreadStep  hs) fun r17 hr17 => ?_)
                    exact zp_some hr17
                  ·
                    refine zp_ite (fun _ => ?_) fun _ => ?_
                    ·
                      refine zp_bind (zp_mono (wy_f_Reader_readCheck  hs) fun r16 hr16 => ?_)
                      exact zp_some hr16
                    ·
                      refine zp_ite (fun _ => ?_) fun _ => ?_
                      ·
                        refine zp_bind (zp_mono (wy_f_Reader_readStop  hs) fun r15 hr15 => ?_)
                        exact zp_some hr15
                      ·
                        refine zp_ite (fun _ => ?_) fun _ => ?_
                        ·
                          refine zp_bind (zp_mono (wy_f_Reader_readSpan  hs) fun r14 hr14 => ?_)
                          exact zp_some hr14
                        ·
                          refine zp_bind (zp_mono (wy_f_Reader_failHere  hs) fun r13 hr13 => ?_)
                          exact zp_some hr13
