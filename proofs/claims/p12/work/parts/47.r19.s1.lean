-- both answer alike
set_option maxRecDepth 2000
def SLT (σ : zS) : Prop := ∀ t s : Nat, t < 4 → s < 24 → Int32.ofNat s < σ 5 t → (σ 7 (24 * t + s) = 0 ∨ σ 7 (24 * t + s) = 1) → 0 ≤ σ 8 (24 * t + s) ∧ σ 8 (24 * t + s) < σ 4 0
def NUM (σ : zS) : Prop := 0 ≤ σ 18 3 ∧ ∀ i : Nat, i < 14 → Int32.ofNat i < σ 18 3 → σ 20 i = 0 → 0 ≤ σ 21 i ∧ σ 21 i < σ 4 0
def SL0 (σ0 σ : zS) : Prop := K4 σ0 σ ∧ NUM σ ∧ SLT σ
theorem SLT.of {σ r : zS} (h : SLT σ) (e4 : r 4 0 = σ 4 0) (e5 : r 5 = σ 5) (e7 : r 7 = σ 7) (e8 : r 8 = σ 8) : SLT r := by
  unfold SLT at *
  rw [e4, e5, e7, e8]
  exact h
theorem NUM.of {σ r : zS} (h : NUM σ) (e4 : r 4 0 = σ 4 0) (e18 : r 18 3 = σ 18 3) (e20 : r 20 = σ 20) (e21 : r 21 = σ 21) : NUM r := by
  unfold NUM at *
  rw [e4, e18, e20, e21]
  exact h
theorem SL0.up {σ0 σ : zS} {p i : Nat} {x : Int32} (hp : (4 ≠ p ∧ 5 ≠ p ∧ 7 ≠ p) ∧ (8 ≠ p ∧ 18 ≠ p) ∧ 20 ≠ p ∧ 21 ≠ p) (h : SL0 σ0 σ) : SL0 σ0 (zx_up σ p i x) := ⟨h.1.up hp.1.1, h.2.1.of (by rw [zu_other hp.1.1]) (by rw [zu_other hp.2.1.2]) (zu_other hp.2.2.1) (zu_other hp.2.2.2), h.2.2.of (by rw [zu_other hp.1.1]) (zu_other hp.1.2.1) (zu_other hp.1.2.2) (zu_other hp.2.1.1)⟩
theorem SL0.u4 {σ0 σ : zS} {i : Nat} {x : Int32} (hi : i = 3 ∨ i = 4) (h : SL0 σ0 σ) : SL0 σ0 (zx_up σ 4 i x) := ⟨h.1.u4 hi, h.2.1.of (by rw [zx_up_same, zu_ne (by omega)]) (by rw [zu_other (by decide)]) (zu_other (by decide)) (zu_other (by decide)), h.2.2.of (by rw [zx_up_same, zu_ne (by omega)]) (zu_other (by decide)) (zu_other (by decide)) (zu_other (by decide))⟩
theorem SL0.u18 {σ0 σ : zS} {i : Nat} {x : Int32} (hi : 3 ≠ i) (h : SL0 σ0 σ) : SL0 σ0 (zx_up σ 18 i x) := ⟨h.1.up (by decide), h.2.1.of (by rw [zu_other (by decide)]) (by rw [zx_up_same, zu_ne hi]) (zu_other (by decide)) (zu_other (by decide)), h.2.2.of (by rw [zu_other (by decide)]) (zu_other (by decide)) (zu_other (by decide)) (zu_other (by decide))⟩
theorem y_numG {N : Nat} {σ : zS} {τ : zT} {w : Int64} {srt B : Int32} (h : ∀ i : Nat, i < 14 → Int32.ofNat i < σ 18 3 → σ 20 i = srt → 0 ≤ σ 21 i ∧ σ 21 i < B) : zp (zf_Names_numberOf N σ τ w srt) (fun v => v = -1 ∨ (0 ≤ v ∧ v < B)) := by
  unfold zf_Names_numberOf
  have go : ∀ (n : Nat) (i : Int32), zp (zb_Names_numberOf_3 N n σ τ w srt i) (fun v => v = -1 ∨ (0 ≤ v ∧ v < B)) := by
    intro n
    induction n with
    | zero => intro _; exact zp_none
    | succ n ih =>
      intro i
      rw [zb_Names_numberOf_3]
      unfold zb_Names_numberOf_50
      refine zp_ite (fun _ => zp_some (Or.inl rfl)) fun c0 => zp_ite (fun _ => zp_some (Or.inl rfl)) fun c1 => zp_chk fun k => zp_ite (fun _ => ih _) fun _ => zp_chk fun _ => zp_ite (fun _ => ih _) fun e => zp_chk fun _ => zp_some (Or.inr ?_)
      have it : Int32.ofNat i.toNatClampNeg = i := zo_mk k.1
      have n := z_nat k.1
      have b := Int32.lt_iff_toInt_lt.mp k.2
      have k14 : (14 : Int32).toInt = 14 := rfl
      exact h i.toNatClampNeg (by omega) (by rw [it]; exact Int32.not_le.mp c0) (Classical.not_not.mp e)
  exact go N 0
theorem y_addStep {σ0 σ : zS} {x1 x2 x3 x4 x5 : Int32} (hs : SL0 σ0 σ) (hx : (x2 = 0 ∨ x2 = 1) → 0 ≤ x3 ∧ x3 < σ 4 0) : zp (zf_Program_addStep σ x1 x2 x3 x4 x5) (fun r => SL0 σ0 r.2) := by
  unfold zf_Program_addStep
  refine zp_ite (fun _ => zp_some hs) fun a0 => zp_ite (fun _ => zp_some hs) fun a1 => zp_chk fun _ => zp_ite (fun _ => zp_some hs) fun b0 => zp_chk fun _ => zp_ite (fun b1 => ?_) fun _ => zp_some hs
  have k0 : (0 : Int32).toInt = 0 := rfl
  have k1 : (1 : Int32).toInt = 1 := rfl
  have k4 : (4 : Int32).toInt = 4 := rfl
  have k24 : (24 : Int32).toInt = 24 := rfl
  have t0 := Int32.le_iff_toInt_le.mp (Int32.not_lt.mp a0)
  have t1 := Int32.lt_iff_toInt_lt.mp (Int32.not_le.mp a1)
  have l0 := Int32.le_iff_toInt_le.mp (Int32.not_lt.mp b0)
  have l1 := Int32.lt_iff_toInt_lt.mp b1
  have tn := z_nat (Int32.not_lt.mp a0)
  have ln := z_nat (Int32.not_lt.mp b0)
  have et : Int32.ofNat x1.toNatClampNeg = x1 := zo_mk (Int32.not_lt.mp a0)
  have elen : Int32.ofNat (σ 5 x1.toNatClampNeg).toNatClampNeg = σ 5 x1.toNatClampNeg := zo_mk (Int32.not_lt.mp b0)
  have m := z_ti_mul (a := x1) (b := 24) (by rw [k24]; omega) (by rw [k24]; omega)
  rw [k24] at m
  have s := z_ti_add (a := x1 * 24) (b := σ 5 x1.toNatClampNeg) (by omega) (by omega)
  have q : ((x1 * 24) + (σ 5 x1.toNatClampNeg)).toNatClampNeg = 24 * x1.toNatClampNeg + (σ 5 x1.toNatClampNeg).toNatClampNeg := by
    have a := z_nat (a := (x1 * 24) + (σ 5 x1.toNatClampNeg)) (Int32.le_iff_toInt_le.mpr (by rw [s, k0]; omega))
    omega
  rw [q]
  refine zp_chk fun _ => zp_chk fun _ => zp_chk fun _ => zp_chk fun _ => zp_chk fun _ => zp_chk fun _ => zp_chk fun _ => zp_chk fun _ => zp_chk fun _ => zp_some ?_
  generalize hT : x1.toNatClampNeg = t at *
  generalize hL : (σ 5 t).toNatClampNeg = L at *
  have s1 := z_ti_add (a := σ 5 t) (b := 1) (by omega) (by omega)
  dsimp only
  refine ⟨fun i a b => ?_, hs.2.1.of ?_ ?_ ?_ ?_, fun t' s' ht' hs' lt kd => ?_⟩
  · rw [zu_other (by decide), zu_other (by decide), zu_other (by decide), zu_other (by decide), zu_other (by decide), zu_other (by decide), zx_up_same, zu_ne b, zu_other (by decide)]
    exact hs.1 i a b
  · rw [zu_other (by decide), zu_other (by decide), zu_other (by decide), zu_other (by decide), zu_other (by decide), zu_other (by decide), zx_up_same, zu_ne (by decide), zu_other (by decide)]
  · iterate 8 rw [zu_other (by decide)]
  · iterate 8 rw [zu_other (by decide)]
  · iterate 8 rw [zu_other (by decide)]
  · rw [zu_other (by decide), zu_other (by decide), zu_other (by decide), zu_other (by decide), zu_other (by decide), zu_other (by decide), zu_other (by decide), zx_up_same] at lt
    rw [zu_other (by decide), zu_other (by decide), zu_other (by decide), zu_other (by decide), zu_other (by decide), zx_up_same, zu_other (by decide), zu_other (by decide)] at kd
    have e8 : (zx_up (zx_up (zx_up (zx_up (zx_up (zx_up (zx_up (zx_up σ 5 t ((σ 5 t) + 1)) 4 4 ((σ 4 4) + 1)) 7 (24 * t + L) x2) 8 (24 * t + L) x3) 11 (24 * t + L) x4) 12 (24 * t + L) x5) 9 (24 * t + L) (-1)) 10 (24 * t + L) (-1)) 8 = zu (σ 8) (24 * t + L) x3 := by
      rw [zu_other (by decide), zu_other (by decide), zu_other (by decide), zu_other (by decide), zx_up_same, zu_other (by decide), zu_other (by decide), zu_other (by decide)]
    have e40 : (zx_up (zx_up (zx_up (zx_up (zx_up (zx_up (zx_up (zx_up σ 5 t ((σ 5 t) + 1)) 4 4 ((σ 4 4) + 1)) 7 (24 * t + L) x2) 8 (24 * t + L) x3) 11 (24 * t + L) x4) 12 (24 * t + L) x5) 9 (24 * t + L) (-1)) 10 (24 * t + L) (-1)) 4 0 = σ 4 0 := by
      rw [zu_other (by decide), zu_other (by decide), zu_other (by decide), zu_other (by decide), zu_other (by decide), zu_other (by decide), zx_up_same, zu_ne (by decide), zu_other (by decide)]
    rw [e8, e40]
    by_cases c : 24 * t' + s' = 24 * t + L
    · rw [c, zu_eq] at kd
      rw [c, zu_eq]
      exact hx kd
    · rw [zu_ne c] at kd
      rw [zu_ne c]
      refine hs.2.2 t' s' ht' hs' ?_ kd
      by_cases ct : t' = t
      · rw [ct, zu_eq] at lt
        rw [ct] at c ⊢
        have l := Int32.lt_iff_toInt_lt.mp lt
        rw [zo_ti (by omega), s1] at l
        exact Int32.lt_iff_toInt_lt.mpr (by rw [zo_ti (by omega)]; omega)
      · rw [zu_ne ct] at lt
        exact lt
