-- both answer alike
set_option maxRecDepth 2000
def NWC (_σ0 σ : zS) : Prop := σ 7 96 = -1 ∧ σ 8 96 = -1 ∧ σ 9 96 = -1 ∧ σ 10 96 = -1 ∧ σ 11 96 = 0 ∧ σ 12 96 = -1
theorem NWC.up {σ0 σ : zS} {p i : Nat} {x : Int32} (hp : 7 ≠ p ∧ 8 ≠ p ∧ 9 ≠ p ∧ 10 ≠ p ∧ 11 ≠ p ∧ 12 ≠ p) (h : NWC σ0 σ) : NWC σ0 (zx_up σ p i x) := by
  obtain ⟨h1, h2, h3, h4, h5, h6⟩ := h
  obtain ⟨p1, p2, p3, p4, p5, p6⟩ := hp
  exact ⟨by rw [zu_other p1]; exact h1, by rw [zu_other p2]; exact h2, by rw [zu_other p3]; exact h3, by rw [zu_other p4]; exact h4, by rw [zu_other p5]; exact h5, by rw [zu_other p6]; exact h6⟩
theorem NWC.put {σ0 σ : zS} {p i : Nat} {x : Int32} (hi : i ≠ 96) (h : NWC σ0 σ) : NWC σ0 (zx_up σ p i x) := by
  have e : ∀ q, (zx_up σ p i x) q 96 = σ q 96 := fun q => by
    by_cases c : q = p
    · rw [c, zx_up_same, zu_ne (Ne.symm hi)]
    · rw [zu_other c]
  unfold NWC at *
  rw [e 7, e 8, e 9, e 10, e 11, e 12]
  exact h
theorem z_n96 {x : Int32} (h0 : ¬ x < 0) (h1 : ¬ 96 ≤ x) : x.toNatClampNeg ≠ 96 := by
  have a := z_nat (Int32.not_lt.mp h0)
  have b := Int32.lt_iff_toInt_lt.mp (Int32.not_le.mp h1)
  have k : (96 : Int32).toInt = 96 := rfl
  omega
theorem wz_f_Program_addStep {σ0 σ : zS} {x1 x2 x3 x4 x5 : Int32} (hs : NWC σ0 σ) : zp (zf_Program_addStep σ x1 x2 x3 x4 x5) (fun r => NWC σ0 r.2) := by
  unfold zf_Program_addStep
  refine zp_ite (fun _ => zp_some hs) fun a0 => zp_ite (fun _ => zp_some hs) fun a1 => zp_chk fun _ => zp_ite (fun _ => zp_some hs) fun b0 => zp_chk fun _ => zp_ite (fun b1 => ?_) fun _ => zp_some hs
  have t0 := Int32.le_iff_toInt_le.mp (Int32.not_lt.mp a0)
  have t1 := Int32.lt_iff_toInt_lt.mp (Int32.not_le.mp a1)
  have l0 := Int32.le_iff_toInt_le.mp (Int32.not_lt.mp b0)
  have l1 := Int32.lt_iff_toInt_lt.mp b1
  generalize σ 5 x1.toNatClampNeg = L at *
  have k0 : (0 : Int32).toInt = 0 := rfl
  have k4 : (4 : Int32).toInt = 4 := rfl
  have k24 : (24 : Int32).toInt = 24 := rfl
  have m := z_ti_mul (a := x1) (b := 24) (by rw [k24]; omega) (by rw [k24]; omega)
  rw [k24] at m
  have s := z_ti_add (a := x1 * 24) (b := L) (by omega) (by omega)
  have ne : ((x1 * 24) + L).toNatClampNeg ≠ 96 := by
    have a := z_nat (a := (x1 * 24) + L) (Int32.le_iff_toInt_le.mpr (by rw [s, k0]; omega))
    omega
  exact zp_chk fun _ => zp_chk fun _ => zp_chk fun _ => zp_chk fun _ => zp_chk fun _ => zp_chk fun _ => zp_chk fun _ => zp_chk fun _ => zp_chk fun _ => zp_some (NWC.put ne (NWC.put ne (NWC.put ne (NWC.put ne (NWC.put ne (NWC.put ne (NWC.up (by decide) (NWC.up (by decide) hs))))))))
theorem wz_f_Weaver_closeOpen {σ0 σ : zS} {N : Nat} {x1 : Int32} (hs : NWC σ0 σ) : zp (zf_Weaver_closeOpen N σ x1) (fun r => NWC σ0 r) := by
  unfold zf_Weaver_closeOpen
  have go : ∀ (n : Nat) (r : zS) (v : Int32), NWC σ0 r → zp (zb_Weaver_closeOpen_2 N n r x1 v) (fun r => NWC σ0 r) := by
    intro n
    induction n with
    | zero => intro _ _ _; exact zp_none
    | succ n ih =>
      intro r v h
      have A : ∀ r', NWC σ0 r' → zp (zb_Weaver_closeOpen_70 (zb_Weaver_closeOpen_2 N n) N r' x1 v) (fun r => NWC σ0 r) := fun r' h' => by
        unfold zb_Weaver_closeOpen_70; exact ih r' (v + 1) h'
      have B : ∀ r' s, s.toNatClampNeg ≠ 96 → NWC σ0 r' → zp (zb_Weaver_closeOpen_49 (zb_Weaver_closeOpen_2 N n) N r' x1 v s) (fun r => NWC σ0 r) := fun r' s hn h' => by
        unfold zb_Weaver_closeOpen_49
        exact zp_ite (fun _ => A r' h') fun _ => zp_chk fun _ => A _ (NWC.put hn h')
      rw [zb_Weaver_closeOpen_2]
      exact zp_ite (fun _ => zp_some (NWC.up (by decide) (NWC.up (by decide) h))) fun _ => zp_ite (fun _ => A r h) fun c0 => zp_ite (fun _ => A r h) fun c1 => zp_ite (fun _ => B r _ (z_n96 c0 c1) h) fun _ => zp_chk fun _ => B _ _ (z_n96 c0 c1) (NWC.put (z_n96 c0 c1) h)
  exact go N σ 0 hs
theorem wz_f_Weaver_finishThread {σ0 σ : zS} {N : Nat} (hs : NWC σ0 σ) : zp (zf_Weaver_finishThread N σ) (fun r => NWC σ0 r) := by
  unfold zf_Weaver_finishThread
  refine zp_bind fun r1 _ => zp_bind (zp_mono (wz_f_Weaver_closeOpen hs) fun r2 h2 => ?_)
  have go : ∀ (n : Nat) (r : zS) (v : Int32), NWC σ0 r → zp (zb_Weaver_finishThread_19 N n r r1 v) (fun r => NWC σ0 r) := by
    intro n
    induction n with
    | zero => intro _ _ _; exact zp_none
    | succ n ih =>
      intro r v h
      rw [zb_Weaver_finishThread_19]
      unfold zb_Weaver_finishThread_67
      refine zp_ite (fun _ => zp_some h) fun _ => zp_ite (fun _ => zp_some h) fun _ => zp_bind fun r5 _ => zp_chk fun _ => zp_ite (fun _ => ih r (v + 1) h) fun k => zp_chk fun _ => ih _ (v + 1) (NWC.put (fun e => ?_) h)
      have k' := Classical.not_not.mp k
      rw [e, h.1] at k'
      exact absurd k' (by decide)
  exact go N r2 0 h2
theorem wz_f_Program_setThread {σ0 σ : zS} {x1 x2 : Int32} (hs : NWC σ0 σ) : zp (zf_Program_setThread σ x1 x2) (fun r => NWC σ0 r) := by
  unfold zf_Program_setThread
  exact zp_ite (fun _ => zp_some hs) fun a0 => zp_ite (fun _ => zp_some hs) fun a1 => zp_ite (fun _ => zp_some hs) fun _ => zp_ite (fun _ => zp_some hs) fun _ => zp_chk fun _ => zp_chk fun _ => zp_ite (fun _ => zp_some (NWC.put (z_n96 a0 a1) hs)) fun _ => zp_chk fun _ => zp_chk fun _ => zp_some (NWC.up (by decide) (NWC.put (z_n96 a0 a1) hs))
