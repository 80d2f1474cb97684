-- both answer alike
set_option maxRecDepth 2000
def Z6 (_σ0 σ : zS) : Prop := (∀ b, b < 4 → σ 6 b = 0) ∧ (0 ≤ σ 4 2 ∧ σ 4 2 ≤ 4) ∧ 0 ≤ σ 18 3 ∧ (∀ i : Nat, i < 14 → Int32.ofNat i < σ 18 3 → σ 20 i = 2 → 0 ≤ σ 21 i ∧ σ 21 i < 4)
theorem Z6.of {a b σ r : zS} (h : Z6 a σ) (e6 : r 6 = σ 6) (e4 : r 4 2 = σ 4 2) (e18 : r 18 3 = σ 18 3) (e20 : r 20 = σ 20) (e21 : r 21 = σ 21) : Z6 b r := by
  unfold Z6 at *
  rw [e6, e4, e18, e20, e21]
  exact h
theorem Z6.up {σ0 σ : zS} {p i : Nat} {x : Int32} (hp : 6 ≠ p ∧ 4 ≠ p ∧ 18 ≠ p ∧ 20 ≠ p ∧ 21 ≠ p) (h : Z6 σ0 σ) : Z6 σ0 (zx_up σ p i x) := h.of (zu_other hp.1) (by rw [zu_other hp.2.1]) (by rw [zu_other hp.2.2.1]) (zu_other hp.2.2.2.1) (zu_other hp.2.2.2.2)
theorem Z6.u4 {σ0 σ : zS} {i : Nat} {x : Int32} (hi : 2 ≠ i) (h : Z6 σ0 σ) : Z6 σ0 (zx_up σ 4 i x) := h.of (zu_other (by decide)) (by rw [zx_up_same, zu_ne hi]) (by rw [zu_other (by decide)]) (zu_other (by decide)) (zu_other (by decide))
theorem Z6.u18 {σ0 σ : zS} {i : Nat} {x : Int32} (hi : 3 ≠ i) (h : Z6 σ0 σ) : Z6 σ0 (zx_up σ 18 i x) := h.of (zu_other (by decide)) (by rw [zu_other (by decide)]) (by rw [zx_up_same, zu_ne hi]) (zu_other (by decide)) (zu_other (by decide))
theorem Z6.inc {σ0 σ : zS} (h : Z6 σ0 σ) (lt : σ 4 2 < 4) : Z6 σ0 (zx_up σ 4 2 ((σ 4 2) + 1)) := by
  obtain ⟨h1, h2, h3, h4⟩ := h
  have k0 : (0 : Int32).toInt = 0 := rfl
  have k1 : (1 : Int32).toInt = 1 := rfl
  have k4 : (4 : Int32).toInt = 4 := rfl
  have a := Int32.le_iff_toInt_le.mp h2.1
  have b := Int32.lt_iff_toInt_lt.mp lt
  have s := z_ti_add (a := σ 4 2) (b := 1) (by omega) (by omega)
  refine ⟨fun b hb => by rw [zu_other (by decide)]; exact h1 b hb, ?_, by rw [zu_other (by decide)]; exact h3, ?_⟩
  · rw [zx_up_same, zu_eq]
    exact ⟨Int32.le_iff_toInt_le.mpr (by omega), Int32.le_iff_toInt_le.mpr (by omega)⟩
  · rw [zu_other (by decide), zu_other (by decide), zu_other (by decide)]
    exact h4
theorem y_adv {σ : zS} {τ : zT} : zp (zf_Tokens_advance σ τ) (fun r => ∀ q, q ≠ 25 → r.1 q = σ q) := by
  have B : ∀ σ' : zS, (∀ q, q ≠ 25 → σ' q = σ q) → zp (zb_Tokens_advance_33 σ' τ) (fun r => ∀ q, q ≠ 25 → r.1 q = σ q) := fun σ' h => by
    unfold zb_Tokens_advance_33
    refine zp_ite (fun _ => zp_some h) fun _ => zp_ite (fun _ => zp_some h) fun _ => zp_chk fun _ => zp_chk fun _ => zp_chk fun _ => zp_some fun q hq => ?_
    dsimp only
    rw [zu_other hq, zu_other hq]
    exact h q hq
  unfold zf_Tokens_advance
  exact zp_ite (fun _ => B σ fun _ _ => rfl) fun _ => zp_ite (fun _ => B σ fun _ _ => rfl) fun _ => B _ fun q hq => zu_other hq
theorem y_fail {σ : zS} {x : Int32} : zp (zf_Reader_failHere σ x) (fun r => r.1 = 0 ∧ ∀ q, q ≠ 17 → r.2 q = σ q) := by
  unfold zf_Reader_failHere zb_Reader_failHere_17
  refine zp_ite (fun _ => zp_some ⟨rfl, fun q hq => ?_⟩) fun _ => zp_some ⟨rfl, fun q hq => ?_⟩
  · dsimp only
    rw [zu_other hq, zu_other hq]
  · dsimp only
    rw [zu_other hq, zu_other hq]
theorem y_tell {σ0 σ : zS} {τ : zT} {x1 : Int64} {x2 x3 : Int32} (hs : Z6 σ0 σ) (hx : x2 = 2 → 0 ≤ x3 ∧ x3 < 4) : zp (zf_Names_tell σ τ x1 x2 x3) (fun r => Z6 σ0 r.1 ∧ r.1 4 = σ 4) := by
  unfold zf_Names_tell
  refine zp_ite (fun _ => zp_some ⟨hs, rfl⟩) fun c0 => zp_ite (fun _ => zp_some ⟨hs, rfl⟩) fun c1 => zp_chk fun _ => zp_chk fun _ => zp_chk fun _ => zp_some ⟨?_, ?_⟩
  · obtain ⟨h1, h2, h3, h4⟩ := hs
    have k0 : (0 : Int32).toInt = 0 := rfl
    have k1 : (1 : Int32).toInt = 1 := rfl
    have k14 : (14 : Int32).toInt = 14 := rfl
    have a := Int32.le_iff_toInt_le.mp h3
    have b := Int32.lt_iff_toInt_lt.mp (Int32.not_le.mp c1)
    have n := z_nat h3
    have s := z_ti_add (a := σ 18 3) (b := 1) (by omega) (by omega)
    refine ⟨fun b hb => ?_, ?_, ?_, fun i hi lt e => ?_⟩
    · dsimp only
      rw [zu_other (by decide), zu_other (by decide), zu_other (by decide)]; exact h1 b hb
    · dsimp only
      rw [zu_other (by decide), zu_other (by decide), zu_other (by decide)]; exact h2
    · dsimp only
      rw [zx_up_same, zu_eq]
      exact Int32.le_iff_toInt_le.mpr (by omega)
    · dsimp only at lt e ⊢
      rw [zx_up_same, zu_eq] at lt
      rw [zu_other (by decide), zu_other (by decide), zx_up_same] at e
      rw [zu_other (by decide), zx_up_same]
      have l := Int32.lt_iff_toInt_lt.mp lt
      rw [zo_ti (by omega), s] at l
      by_cases c : i = (σ 18 3).toNatClampNeg
      · rw [c, zu_eq] at e
        rw [c, zu_eq]
        exact hx e
      · rw [zu_ne c] at e
        rw [zu_ne c]
        exact h4 i hi (Int32.lt_iff_toInt_lt.mpr (by rw [zo_ti (by omega)]; omega)) e
  · dsimp only
    rw [zu_other (by decide), zu_other (by decide), zu_other (by decide)]
theorem y_tellName {N : Nat} {σ0 σ : zS} {τ : zT} {x1 x2 x3 : Int32} (hs : Z6 σ0 σ) (hx : x1 = 2 → x2 < x3 → 0 ≤ x2 ∧ x2 < 4) : zp (zf_Reader_tellName N σ τ x1 x2 x3) (fun r => Z6 σ0 r.2.1 ∧ (r.1 = 0 ∨ x2 < x3) ∧ r.2.1 4 = σ 4) := by
  unfold zf_Reader_tellName
  have F : ∀ k, zp ((zf_Reader_failHere σ k).bind fun r7 => if r7.1 = 0 ∨ r7.1 = 1 then some (r7.1, r7.2, τ) else none) (fun r => Z6 σ0 r.2.1 ∧ (r.1 = 0 ∨ x2 < x3) ∧ r.2.1 4 = σ 4) := fun k => zp_bind (zp_mono y_fail fun r h => zp_chk fun _ => zp_some ⟨hs.of (h.2 6 (by decide)) (congrFun (h.2 4 (by decide)) 2) (congrFun (h.2 18 (by decide)) 3) (h.2 20 (by decide)) (h.2 21 (by decide)), Or.inl h.1, h.2 4 (by decide)⟩)
  refine zp_ite (fun _ => zp_bind fun r2 _ => zp_ite (fun _ => zp_ite (fun lt => zp_bind (zp_mono (y_tell hs fun e => hx e lt) fun r5 h5 => zp_bind (zp_mono y_adv fun r6 h6 => zp_some ⟨h5.1.of (h6 6 (by decide)) (congrFun (h6 4 (by decide)) 2) (congrFun (h6 18 (by decide)) 3) (h6 20 (by decide)) (h6 21 (by decide)), Or.inr lt, ?_⟩))) fun _ => F 4) fun _ => F 3) fun _ => F 2
  dsimp only
  rw [h6 4 (by decide)]
  exact h5.2
theorem wy_f_Reader_tellName {N : Nat} {σ0 σ : zS} {τ : zT} {x1 x2 x3 : Int32} (hs : Z6 σ0 σ) (hx : ¬ x1 = 2 := by decide) : zp (zf_Reader_tellName N σ τ x1 x2 x3) (fun r => Z6 σ0 r.2.1) := zp_mono (y_tellName hs fun e => absurd e hx) fun r h => h.1
