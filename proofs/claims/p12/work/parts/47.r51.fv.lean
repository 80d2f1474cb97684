-- both answer alike
set_option maxRecDepth 2000
def F40 (σ0 σ : zS) : Prop := ∀ q, q ≠ 40 → σ q = σ0 q
theorem F40.up {σ0 σ : zS} {p i : Nat} {x : Int32} (hp : p = 40) (h : F40 σ0 σ) : F40 σ0 (zx_up σ p i x) := fun q hq => by rw [zu_other (by omega)]; exact h q hq
theorem F40.cp {σ0 σ : zS} {p q : Nat} {a b c : Int32} (hq : q = 40) (h : F40 σ0 σ) : F40 σ0 (zJ_copy σ p q a b c) := fun u hu => by rw [zJ_copy_ne (by omega)]; exact h u hu
def F36 (σ0 σ : zS) : Prop := ∀ q, q ≠ 36 → q ≠ 37 → q ≠ 38 → q ≠ 39 → σ q = σ0 q
theorem F36.up {σ0 σ : zS} {p i : Nat} {x : Int32} (hp : p = 36 ∨ p = 37 ∨ p = 38 ∨ p = 39) (h : F36 σ0 σ) : F36 σ0 (zx_up σ p i x) := fun q a b c d => by rw [zu_other (by omega)]; exact h q a b c d
theorem F36.cp {σ0 σ : zS} {p q : Nat} {a b c : Int32} (hq : q = 36 ∨ q = 37 ∨ q = 38 ∨ q = 39) (h : F36 σ0 σ) : F36 σ0 (zJ_copy σ p q a b c) := fun u x y z v => by rw [zJ_copy_ne (by omega)]; exact h u x y z v
def F114 (σ0 σ : zS) : Prop := ∀ q, q ≠ 114 → σ q = σ0 q
theorem F114.up {σ0 σ : zS} {p i : Nat} {x : Int32} (hp : p = 114) (h : F114 σ0 σ) : F114 σ0 (zx_up σ p i x) := fun q hq => by rw [zu_other (by omega)]; exact h q hq
theorem wt_b_Machine_place_30 {σ0 : zS} {σ : zS} {v1 : Int32} {v2 : Int32} {v3 : Int32} {s0 : Int32}  (hs : F40 σ0 σ) : zp (zb_Machine_place_30 σ v1 v2 v3 s0) (fun r => F40 σ0 r) := by
  unfold zb_Machine_place_30
  refine zp_ite (fun _ => ?_) fun _ => ?_
  ·
    exact zp_some hs
  ·
    refine zp_ite (fun _ => ?_) fun _ => ?_
    ·
      exact zp_some hs
    ·
      refine zp_chk fun _ => ?_
      refine zp_chk fun _ => ?_
      exact zp_some (F40.up (by decide) hs)
theorem wt_b_Machine_place_15 {σ0 : zS} {σ : zS} {v1 : Int32} {v2 : Int32} {v3 : Int32} {s0 : Int32}  (hs : F40 σ0 σ) : zp (zb_Machine_place_15 σ v1 v2 v3 s0) (fun r => F40 σ0 r) := by
  unfold zb_Machine_place_15
  refine zp_ite (fun _ => ?_) fun _ => ?_
  ·
    exact wt_b_Machine_place_30  hs
  ·
    exact wt_b_Machine_place_30  hs
theorem wt_b_Machine_place_10 {σ0 : zS} {σ : zS} {v1 : Int32} {v2 : Int32} {v3 : Int32}  (hs : F40 σ0 σ) : zp (zb_Machine_place_10 σ v1 v2 v3) (fun r => F40 σ0 r) := by
  unfold zb_Machine_place_10
  exact wt_b_Machine_place_15  hs
theorem wt_f_Machine_place {σ0 : zS} {σ : zS} {x1 : Int32} {x2 : Int32} {x3 : Int32}  (hs : F40 σ0 σ) : zp (zf_Machine_place σ x1 x2 x3) (fun r => F40 σ0 r) := by
  unfold zf_Machine_place
  refine zp_ite (fun _ => ?_) fun _ => ?_
  ·
    exact wt_b_Machine_place_10  hs
  ·
    refine zp_ite (fun _ => ?_) fun _ => ?_
    ·
      exact wt_b_Machine_place_15  hs
    ·
      exact wt_b_Machine_place_10  hs
theorem wt_b_Machine_goTo_49 {σ0 : zS} {σ : zS} {s0 : Int32} {s1 : Int32} {s2 : Int32}  (hs : F40 σ0 σ) : zp (zb_Machine_goTo_49 σ s0 s1 s2) (fun r => F40 σ0 r) := by
  unfold zb_Machine_goTo_49
  refine zp_bind (zp_mono (wt_f_Machine_place  hs) fun r4 hr4 => ?_)
  exact zp_some hr4
theorem wt_b_Machine_goTo_40 {σ0 : zS} {σ : zS} {v3 : Int32} {s0 : Int32} {s1 : Int32}  (hs : F40 σ0 σ) : zp (zb_Machine_goTo_40 σ v3 s0 s1) (fun r => F40 σ0 r) := by
  unfold zb_Machine_goTo_40
  refine zp_ite (fun _ => ?_) fun _ => ?_
  ·
    exact wt_b_Machine_goTo_49  hs
  ·
    exact wt_b_Machine_goTo_49  hs
theorem wt_b_Machine_goTo_21 {σ0 : zS} {σ : zS} {v1 : Int32} {v2 : Int32} {s0 : Int32}  (hs : F40 σ0 σ) : zp (zb_Machine_goTo_21 σ v1 v2 s0) (fun r => F40 σ0 r) := by
  unfold zb_Machine_goTo_21
  refine zp_ite (fun _ => ?_) fun _ => ?_
  ·
    exact wt_b_Machine_goTo_40  hs
  ·
    refine zp_bind fun r5 _ => ?_
    exact wt_b_Machine_goTo_40  hs
theorem wt_b_Machine_goTo_16 {σ0 : zS} {σ : zS} {v1 : Int32} {v2 : Int32}  (hs : F40 σ0 σ) : zp (zb_Machine_goTo_16 σ v1 v2) (fun r => F40 σ0 r) := by
  unfold zb_Machine_goTo_16
  exact wt_b_Machine_goTo_21  hs
theorem wt_f_Machine_goTo {σ0 : zS} {σ : zS} {x1 : Int32} {x2 : Int32}  (hs : F40 σ0 σ) : zp (zf_Machine_goTo σ x1 x2) (fun r => F40 σ0 r) := by
  unfold zf_Machine_goTo
  refine zp_ite (fun _ => ?_) fun _ => ?_
  ·
    exact wt_b_Machine_goTo_16  hs
  ·
    refine zp_bind fun r6 _ => ?_
    refine zp_ite (fun _ => ?_) fun _ => ?_
    ·
      exact wt_b_Machine_goTo_21  hs
    ·
      exact wt_b_Machine_goTo_16  hs
theorem wt_f_Machine_startThread {σ0 : zS} {σ : zS} {x1 : Int32}  (hs : F40 σ0 σ) : zp (zf_Machine_startThread σ x1) (fun r => F40 σ0 r.2) := by
  unfold zf_Machine_startThread
  refine zp_bind fun r1 _ => ?_
  refine zp_ite (fun _ => ?_) fun _ => ?_
  ·
    refine zp_bind (zp_mono (wt_f_Machine_goTo  hs) fun r3 hr3 => ?_)
    exact zp_some hr3
  ·
    exact zp_some hs
theorem wt_b_Machine_signal_121 {σ0 : zS} {k49 : zS → Int32 → Int32 → Int32 → Int32 → Option (Int32 × zS)} {N : Nat} {σ : zS} {v3 : Int32} {v4 : Int32} {v5 : Int32} {v6 : Int32} (hk49 : ∀ (y0 : zS) (y1 : Int32) (y2 : Int32) (y3 : Int32) (y4 : Int32), F40 σ0 y0 → zp (k49 y0 y1 y2 y3 y4) (fun r => F40 σ0 r.2)) (hs : F40 σ0 σ) : zp (zb_Machine_signal_121 k49 N σ v3 v4 v5 v6) (fun r => F40 σ0 r.2) := by
  unfold zb_Machine_signal_121
  exact hk49 _ _ _ _ _ hs
theorem wt_b_Machine_signal_119 {σ0 : zS} {k49 : zS → Int32 → Int32 → Int32 → Int32 → Option (Int32 × zS)} {N : Nat} {σ : zS} {v3 : Int32} {v4 : Int32} {v6 : Int32} {s0 : Int32} (hk49 : ∀ (y0 : zS) (y1 : Int32) (y2 : Int32) (y3 : Int32) (y4 : Int32), F40 σ0 y0 → zp (k49 y0 y1 y2 y3 y4) (fun r => F40 σ0 r.2)) (hs : F40 σ0 σ) : zp (zb_Machine_signal_119 k49 N σ v3 v4 v6 s0) (fun r => F40 σ0 r.2) := by
  unfold zb_Machine_signal_119
  exact wt_b_Machine_signal_121 (hk49) hs
theorem wt_b_Machine_signal_49 {σ0 : zS} {N : Nat}  : ∀ (n : Nat) (σ : zS) (v3 : Int32) (v4 : Int32) (v5 : Int32) (v6 : Int32), F40 σ0 σ → zp (zb_Machine_signal_49 N n σ v3 v4 v5 v6) (fun r => F40 σ0 r.2) := by
  intro n
  induction n with
  | zero => intro _ _ _ _ _ _; exact zp_none
  | succ n ih =>
    intro σ v3 v4 v5 v6 hs
    rw [zb_Machine_signal_49]
    refine zp_ite (fun _ => ?_) fun _ => ?_
    ·
      exact zp_some hs
    ·
      refine zp_ite (fun _ => ?_) fun _ => ?_
      ·
        exact zp_some hs
      ·
        refine zp_bind fun r8 _ => ?_
        refine zp_ite (fun _ => ?_) fun _ => ?_
        ·
          exact wt_b_Machine_signal_121 (ih) hs
        ·
          refine zp_bind fun r10 _ => ?_
          refine zp_chk fun _ => ?_
          refine zp_ite (fun _ => ?_) fun _ => ?_
          ·
            exact wt_b_Machine_signal_121 (ih) hs
          ·
            refine zp_bind fun r13 _ => ?_
            refine zp_bind (zp_mono (wt_f_Machine_place  hs) fun r14 hr14 => ?_)
            refine zp_ite (fun _ => ?_) fun _ => ?_
            ·
              exact wt_b_Machine_signal_119 (ih) hr14
            ·
              exact wt_b_Machine_signal_119 (ih) hr14
theorem wt_b_Machine_signal_44 {σ0 : zS} {N : Nat} {σ : zS} {v3 : Int32} {v4 : Int32} {s0 : Int32}  (hs : F40 σ0 σ) : zp (zb_Machine_signal_44 N σ v3 v4 s0) (fun r => F40 σ0 r.2) := by
  unfold zb_Machine_signal_44
  exact wt_b_Machine_signal_49  _ _ _ _ _ _ hs
theorem wt_f_Machine_signal {σ0 : zS} {N : Nat} {σ : zS} {x1 : Int32} {x2 : Int32}  (hs : F40 σ0 σ) : zp (zf_Machine_signal N σ x1 x2) (fun r => F40 σ0 r.2) := by
  unfold zf_Machine_signal
  refine zp_chk fun _ => ?_
  refine zp_chk fun _ => ?_
  refine zp_bind fun r3 _ => ?_
  refine zp_ite (fun _ => ?_) fun _ => ?_
  ·
    refine zp_ite (fun _ => ?_) fun _ => ?_
    ·
      exact wt_b_Machine_signal_44  hs
    ·
      exact wt_b_Machine_signal_44  hs
  ·
    exact zp_some hs
theorem wt_b_Machine_work_150 {σ0 : zS} {σ : zS} {v4 : Int32} {v6 : Int32} {s0 : Int32} {s1 : Int32}  (hs : F40 σ0 σ) : zp (zb_Machine_work_150 σ v4 v6 s0 s1) (fun r => F40 σ0 r) := by
  unfold zb_Machine_work_150
  refine zp_ite (fun _ => ?_) fun _ => ?_
  ·
    exact zp_some hs
  ·
    refine zp_ite (fun _ => ?_) fun _ => ?_
    ·
      exact zp_some hs
    ·
      refine zp_chk fun _ => ?_
      refine zp_chk fun _ => ?_
      exact zp_some (F40.up (by decide) hs)
theorem wt_b_Machine_work_121 {σ0 : zS} {σ : zS} {v2 : Int32} {v3 : Int32} {v4 : Int32} {s0 : Int32}  (hs : F40 σ0 σ) : zp (zb_Machine_work_121 σ v2 v3 v4 s0) (fun r => F40 σ0 r) := by
  unfold zb_Machine_work_121
  refine zp_ite (fun _ => ?_) fun _ => ?_
  ·
    refine zp_chk fun _ => ?_
    exact wt_b_Machine_work_150  hs
  ·
    refine zp_chk fun _ => ?_
    exact wt_b_Machine_work_150  hs
theorem wt_b_Machine_work_109 {σ0 : zS} {σ : zS} {v1 : Int32} {v2 : Int32} {v3 : Int32} {v4 : Int32}  (hs : F40 σ0 σ) : zp (zb_Machine_work_109 σ v1 v2 v3 v4) (fun r => F40 σ0 r) := by
  unfold zb_Machine_work_109
  refine zp_ite (fun _ => ?_) fun _ => ?_
  ·
    exact wt_b_Machine_work_121  hs
  ·
    exact wt_b_Machine_work_121  hs
theorem wt_f_Machine_work {σ0 : zS} {σ : zS} {x1 : Int32} {x2 : Int32}  (hs : F40 σ0 σ) : zp (zf_Machine_work σ x1 x2) (fun r => F40 σ0 r) := by
  unfold zf_Machine_work
  refine zp_chk fun _ => ?_
  refine zp_chk fun _ => ?_
  refine zp_bind fun r3 _ => ?_
  refine zp_chk fun _ => ?_
  refine zp_bind fun r5 _ => ?_
  refine zp_ite (fun _ => ?_) fun _ => ?_
  ·
    refine zp_chk fun _ => ?_
    refine zp_ite (fun _ => ?_) fun _ => ?_
    ·
      refine zp_chk fun _ => ?_
      refine zp_ite (fun _ => ?_) fun _ => ?_
      ·
        exact wt_b_Machine_work_109  hs
      ·
        exact wt_b_Machine_work_109  hs
    ·
      exact wt_b_Machine_work_109  hs
  ·
    refine zp_chk fun _ => ?_
    refine zp_bind fun r20 _ => ?_
    exact wt_b_Machine_work_109  hs
theorem wt_b_Machine_move_317 {σ0 : zS} {N : Nat} {σ : zS} {v1 : Int32} {v6 : Int32}  (hs : F40 σ0 σ) : zp (zb_Machine_move_317 N σ v1 v6) (fun r => F40 σ0 r) := by
  unfold zb_Machine_move_317
  refine zp_bind (zp_mono (wt_f_Machine_goTo  hs) fun r28 hr28 => ?_)
  exact zp_some hr28
theorem wt_b_Machine_move_261 {σ0 : zS} {N : Nat} {σ : zS} {v1 : Int32} {v3 : Int32} {v5 : Int32} {v6 : Int32}  (hs : F40 σ0 σ) : zp (zb_Machine_move_261 N σ v1 v3 v5 v6) (fun r => F40 σ0 r) := by
  unfold zb_Machine_move_261
  refine zp_ite (fun _ => ?_) fun _ => ?_
  ·
    refine zp_bind fun r26 _ => ?_
    refine zp_ite (fun _ => ?_) fun _ => ?_
    ·
      exact wt_b_Machine_move_317  hs
    ·
      refine zp_chk fun _ => ?_
      refine zp_ite (fun _ => ?_) fun _ => ?_
      ·
        exact wt_b_Machine_move_317  hs
      ·
        refine zp_bind fun r31 _ => ?_
        refine zp_bind (zp_mono (wt_f_Machine_place  hs) fun r32 hr32 => ?_)
        exact zp_some hr32
  ·
    refine zp_bind fun r33 _ => ?_
    refine zp_bind (zp_mono (wt_f_Machine_place  hs) fun r34 hr34 => ?_)
    exact zp_some hr34
theorem wt_b_Machine_move_216 {σ0 : zS} {N : Nat} {σ : zS} {v1 : Int32} {v3 : Int32} {v5 : Int32} {s0 : Int32}  (hs : F40 σ0 σ) : zp (zb_Machine_move_216 N σ v1 v3 v5 s0) (fun r => F40 σ0 r) := by
  unfold zb_Machine_move_216
  exact wt_b_Machine_move_261  hs
theorem wt_b_Machine_move_116 {σ0 : zS} {N : Nat} {σ : zS} {v1 : Int32} {v3 : Int32} {v5 : Int32} {v6 : Int32} {s0 : Int32}  (hs : F40 σ0 σ) : zp (zb_Machine_move_116 N σ v1 v3 v5 v6 s0) (fun r => F40 σ0 r) := by
  unfold zb_Machine_move_116
  refine zp_ite (fun _ => ?_) fun _ => ?_
  ·
    refine zp_bind (zp_mono (wt_f_Machine_work  hs) fun r49 hr49 => ?_)
    exact wt_b_Machine_move_261  hr49
  ·
    refine zp_ite (fun _ => ?_) fun _ => ?_
    ·
      refine zp_bind (zp_mono (wt_f_Machine_work  hs) fun r48 hr48 => ?_)
      exact wt_b_Machine_move_261  hr48
    ·
      refine zp_ite (fun _ => ?_) fun _ => ?_
      ·
        refine zp_bind (zp_mono (wt_f_Machine_work  hs) fun r47 hr47 => ?_)
        exact wt_b_Machine_move_261  hr47
      ·
        refine zp_ite (fun _ => ?_) fun _ => ?_
        ·
          exact wt_b_Machine_move_261  hs
        ·
          refine zp_ite (fun _ => ?_) fun _ => ?_
          ·
            exact wt_b_Machine_move_261  hs
          ·
            refine zp_ite (fun _ => ?_) fun _ => ?_
            ·
              refine zp_bind fun r44 _ => ?_
              refine zp_ite (fun _ => ?_) fun _ => ?_
              ·
                refine zp_chk fun _ => ?_
                exact wt_b_Machine_move_216  hs
              ·
                exact wt_b_Machine_move_216  hs
            ·
              refine zp_ite (fun _ => ?_) fun _ => ?_
              ·
                refine zp_bind fun r41 _ => ?_
                refine zp_ite (fun _ => ?_) fun _ => ?_
                ·
                  refine zp_chk fun _ => ?_
                  exact wt_b_Machine_move_216  hs
                ·
                  exact wt_b_Machine_move_216  hs
              ·
                refine zp_ite (fun _ => ?_) fun _ => ?_
                ·
                  refine zp_bind (zp_mono (wt_f_Machine_signal  hs) fun r40 hr40 => ?_)
                  exact wt_b_Machine_move_261  hr40
                ·
                  refine zp_ite (fun _ => ?_) fun _ => ?_
                  ·
                    refine zp_bind (zp_mono (wt_f_Machine_signal  hs) fun r39 hr39 => ?_)
                    exact wt_b_Machine_move_261  hr39
                  ·
                    refine zp_ite (fun _ => ?_) fun _ => ?_
                    ·
                      refine zp_bind (zp_mono (wt_f_Machine_signal  hs) fun r38 hr38 => ?_)
                      exact wt_b_Machine_move_261  hr38
                    ·
                      refine zp_ite (fun _ => ?_) fun _ => ?_
                      ·
                        refine zp_chk fun _ => ?_
                        refine zp_bind (zp_mono (wt_f_Machine_startThread  hs) fun r37 hr37 => ?_)
                        exact wt_b_Machine_move_261  hr37
                      ·
                        refine zp_ite (fun _ => ?_) fun _ => ?_
                        ·
                          exact wt_b_Machine_move_261  hs
                        ·
                          refine zp_ite (fun _ => ?_) fun _ => ?_
                          ·
                            refine zp_bind fun r35 _ => ?_
                            exact wt_b_Machine_move_261  hs
                          ·
                            exact wt_b_Machine_move_261  hs
theorem wt_b_Machine_move_39 {σ0 : zS} {N : Nat} {σ : zS} {v1 : Int32} {v3 : Int32} {s0 : Int32}  (hs : F40 σ0 σ) : zp (zb_Machine_move_39 N σ v1 v3 s0) (fun r => F40 σ0 r) := by
  unfold zb_Machine_move_39
  refine zp_chk fun _ => ?_
  refine zp_chk fun _ => ?_
  refine zp_chk fun _ => ?_
  refine zp_bind fun r9 _ => ?_
  refine zp_ite (fun _ => ?_) fun _ => ?_
  ·
    refine zp_chk fun _ => ?_
    exact wt_b_Machine_move_116  (F40.up (by decide) (F40.cp (by decide) hs))
  ·
    exact wt_b_Machine_move_116  (F40.up (by decide) (F40.cp (by decide) hs))
theorem wt_b_Machine_move_38 {σ0 : zS} {N : Nat} {σ : zS} {v1 : Int32} {v3 : Int32}  (hs : F40 σ0 σ) : zp (zb_Machine_move_38 N σ v1 v3) (fun r => F40 σ0 r) := by
  unfold zb_Machine_move_38
  exact wt_b_Machine_move_39  hs
theorem wt_f_Machine_move {σ0 : zS} {N : Nat} {σ : zS} {x1 : Int32} {x2 : Int32}  (hs : F40 σ0 σ) : zp (zf_Machine_move N σ x1 x2) (fun r => F40 σ0 r) := by
  unfold zf_Machine_move
  refine zp_ite (fun _ => ?_) fun _ => ?_
  ·
    exact zp_some hs
  ·
    refine zp_ite (fun _ => ?_) fun _ => ?_
    ·
      refine zp_bind fun r3 _ => ?_
      refine zp_ite (fun _ => ?_) fun _ => ?_
      ·
        exact wt_b_Machine_move_38  hs
      ·
        refine zp_chk fun _ => ?_
        refine zp_ite (fun _ => ?_) fun _ => ?_
        ·
          exact wt_b_Machine_move_38  hs
        ·
          exact wt_b_Machine_move_39  hs
    ·
      exact zp_some hs
theorem wu_b_Arrays_fill_c4_5 {σ0 : zS} {N : Nat}  : ∀ (n : Nat) (σ : zS) (v1 : Int32) (v2 : Int32) (v3 : Int32), F36 σ0 σ → zp (zb_Arrays_fill_c4_5 N n σ v1 v2 v3) (fun r => F36 σ0 r) := by
  intro n
  induction n with
  | zero => intro _ _ _ _ _; exact zp_none
  | succ n ih =>
    intro σ v1 v2 v3 hs
    rw [zb_Arrays_fill_c4_5]
    refine zp_ite (fun _ => ?_) fun _ => ?_
    ·
      exact zp_some hs
    ·
      refine zp_chk fun _ => ?_
      exact ih _ _ _ _ (F36.up (by decide) hs)
theorem wu_f_Arrays_fill_c4 {σ0 : zS} {N : Nat} {σ : zS} {x2 : Int32}  (hs : F36 σ0 σ) : zp (zf_Arrays_fill_c4 N σ x2) (fun r => F36 σ0 r) := by
  unfold zf_Arrays_fill_c4
  exact wu_b_Arrays_fill_c4_5  _ _ _ _ _ hs
theorem wu_b_Machine_load_130 {σ0 : zS} {k34 : zS → Int32 → Option (zS)} {N : Nat} {σ : zS} {v3 : Int32} (hk34 : ∀ (y0 : zS) (y1 : Int32), F36 σ0 y0 → zp (k34 y0 y1) (fun r => F36 σ0 r)) (hs : F36 σ0 σ) : zp (zb_Machine_load_130 k34 N σ v3) (fun r => F36 σ0 r) := by
  unfold zb_Machine_load_130
  exact hk34 _ _ hs
theorem wu_b_Machine_load_124 {σ0 : zS} {k95 : zS → Int32 → Int32 → Int32 → Option (zS)} {N : Nat} {σ : zS} {v3 : Int32} {v5 : Int32} {v6 : Int32} (hk95 : ∀ (y0 : zS) (y1 : Int32) (y2 : Int32) (y3 : Int32), F36 σ0 y0 → zp (k95 y0 y1 y2 y3) (fun r => F36 σ0 r)) (hs : F36 σ0 σ) : zp (zb_Machine_load_124 k95 N σ v3 v5 v6) (fun r => F36 σ0 r) := by
  unfold zb_Machine_load_124
  exact hk95 _ _ _ _ hs
theorem wu_b_Machine_load_95 {σ0 : zS} {k34 : zS → Int32 → Option (zS)} {N : Nat} (hk34 : ∀ (y0 : zS) (y1 : Int32), F36 σ0 y0 → zp (k34 y0 y1) (fun r => F36 σ0 r)) : ∀ (n : Nat) (σ : zS) (v3 : Int32) (v5 : Int32) (v6 : Int32), F36 σ0 σ → zp (zb_Machine_load_95 k34 N n σ v3 v5 v6) (fun r => F36 σ0 r) := by
  intro n
  induction n with
  | zero => intro _ _ _ _ _; exact zp_none
  | succ n ih =>
    intro σ v3 v5 v6 hs
    rw [zb_Machine_load_95]
    refine zp_ite (fun _ => ?_) fun _ => ?_
    ·
      exact wu_b_Machine_load_130 (hk34) hs
    ·
      refine zp_ite (fun _ => ?_) fun _ => ?_
      ·
        exact wu_b_Machine_load_130 (hk34) hs
      ·
        refine zp_ite (fun _ => ?_) fun _ => ?_
        ·
          exact wu_b_Machine_load_124 (ih) hs
        ·
          refine zp_chk fun _ => ?_
          exact wu_b_Machine_load_124 (ih) (F36.up (by decide) hs)
theorem wu_b_Machine_load_34 {σ0 : zS} {N : Nat}  : ∀ (n : Nat) (σ : zS) (v3 : Int32), F36 σ0 σ → zp (zb_Machine_load_34 N n σ v3) (fun r => F36 σ0 r) := by
  intro n
  induction n with
  | zero => intro _ _ _; exact zp_none
  | succ n ih =>
    intro σ v3 hs
    rw [zb_Machine_load_34]
    refine zp_ite (fun _ => ?_) fun _ => ?_
    ·
      exact zp_some hs
    ·
      refine zp_chk fun _ => ?_
      refine zp_chk fun _ => ?_
      refine zp_bind fun r8 _ => ?_
      refine zp_chk fun _ => ?_
      refine zp_bind fun r10 _ => ?_
      exact wu_b_Machine_load_95 (ih) _ _ _ _ _ (F36.up (by decide) (F36.up (by decide) hs))
theorem wu_f_Machine_load {σ0 : zS} {N : Nat} {σ : zS} {x2 : Int32}  (hs : F36 σ0 σ) : zp (zf_Machine_load N σ x2) (fun r => F36 σ0 r) := by
  unfold zf_Machine_load
  refine zp_ite (fun _ => ?_) fun _ => ?_
  ·
    exact zp_some hs
  ·
    refine zp_ite (fun _ => ?_) fun _ => ?_
    ·
      refine zp_chk fun _ => ?_
      refine zp_bind (zp_mono (wu_f_Arrays_fill_c4  (F36.cp (by decide) hs)) fun r4 hr4 => ?_)
      exact wu_b_Machine_load_34  _ _ _ hr4
    ·
      exact zp_some hs
theorem wu_f_Space_load {σ0 : zS} {N : Nat} {σ : zS} {x1 : Int32}  (hs : F36 σ0 σ) : zp (zf_Space_load N σ x1) (fun r => F36 σ0 r) := by
  unfold zf_Space_load
  refine zp_bind fun r1 _ => ?_
  refine zp_ite (fun _ => ?_) fun _ => ?_
  ·
    exact zp_some hs
  ·
    refine zp_bind (zp_mono (wu_f_Machine_load  hs) fun r3 hr3 => ?_)
    exact zp_some hr3
theorem ww_b_M_lookForRaces_115 {σ0 : zS} {k14 : zS → Int32 → Int32 → Int32 → Option (zS)} {N : Nat} {σ : zS} {v1 : Int32} {v2 : Int32} {v3 : Int32} (hk14 : ∀ (y0 : zS) (y1 : Int32) (y2 : Int32) (y3 : Int32), F114 σ0 y0 → zp (k14 y0 y1 y2 y3) (fun r => F114 σ0 r)) (hs : F114 σ0 σ) : zp (zb_M_lookForRaces_115 k14 N σ v1 v2 v3) (fun r => F114 σ0 r) := by
  unfold zb_M_lookForRaces_115
  exact hk14 _ _ _ _ hs
theorem ww_b_M_lookForRaces_14 {σ0 : zS} {k2 : zS → Int32 → Int32 → Option (zS)} {N : Nat} (hk2 : ∀ (y0 : zS) (y1 : Int32) (y2 : Int32), F114 σ0 y0 → zp (k2 y0 y1 y2) (fun r => F114 σ0 r)) : ∀ (n : Nat) (σ : zS) (v1 : Int32) (v2 : Int32) (v3 : Int32), F114 σ0 σ → zp (zb_M_lookForRaces_14 k2 N n σ v1 v2 v3) (fun r => F114 σ0 r) := by
  intro n
  induction n with
  | zero => intro _ _ _ _ _; exact zp_none
  | succ n ih =>
    intro σ v1 v2 v3 hs
    rw [zb_M_lookForRaces_14]
    refine zp_ite (fun _ => ?_) fun _ => ?_
    ·
      exact hk2 _ _ _ hs
    ·
      refine zp_bind fun r3 _ => ?_
      refine zp_ite (fun _ => ?_) fun _ => ?_
      ·
        exact ww_b_M_lookForRaces_115 (ih) hs
      ·
        refine zp_bind fun r5 _ => ?_
        refine zp_ite (fun _ => ?_) fun _ => ?_
        ·
          exact ww_b_M_lookForRaces_115 (ih) hs
        ·
          refine zp_bind fun r7 _ => ?_
          refine zp_chk fun _ => ?_
          refine zp_bind fun r9 _ => ?_
          refine zp_chk fun _ => ?_
          refine zp_bind fun r11 _ => ?_
          refine zp_ite (fun _ => ?_) fun _ => ?_
          ·
            exact ww_b_M_lookForRaces_115 (ih) hs
          ·
            refine zp_chk fun _ => ?_
            refine zp_ite (fun _ => ?_) fun _ => ?_
            ·
              exact ww_b_M_lookForRaces_115 (ih) hs
            ·
              refine zp_chk fun _ => ?_
              exact ww_b_M_lookForRaces_115 (ih) (F114.up (by decide) hs)
theorem ww_b_M_lookForRaces_2 {σ0 : zS} {N : Nat}  : ∀ (n : Nat) (σ : zS) (v1 : Int32) (v2 : Int32), F114 σ0 σ → zp (zb_M_lookForRaces_2 N n σ v1 v2) (fun r => F114 σ0 r) := by
  intro n
  induction n with
  | zero => intro _ _ _ _; exact zp_none
  | succ n ih =>
    intro σ v1 v2 hs
    rw [zb_M_lookForRaces_2]
    refine zp_ite (fun _ => ?_) fun _ => ?_
    ·
      exact zp_some hs
    ·
      exact ww_b_M_lookForRaces_14 (ih) _ _ _ _ _ hs
theorem ww_f_M_lookForRaces {σ0 : zS} {N : Nat} {σ : zS} {x1 : Int32}  (hs : F114 σ0 σ) : zp (zf_M_lookForRaces N σ x1) (fun r => F114 σ0 r) := by
  unfold zf_M_lookForRaces
  exact ww_b_M_lookForRaces_2  _ _ _ _ hs
theorem c_moveF {N : Nat} {σ : zS} {x y : Int32} : zp (zf_Machine_move N σ x y) (fun r => ∀ q, q ≠ 40 → r q = σ q) := wt_f_Machine_move (σ0 := σ) fun _ _ => rfl
theorem c_loadF {N : Nat} {σ : zS} {x : Int32} : zp (zf_Space_load N σ x) (fun r => ∀ q, q ≠ 36 → q ≠ 37 → q ≠ 38 → q ≠ 39 → r q = σ q) := wu_f_Space_load (σ0 := σ) fun _ _ _ _ _ => rfl
