-- both answer alike
set_option maxRecDepth 2000
def CO0 (ρ r : zS) : Prop := (∀ q, q ≠ 9 → q ≠ 10 → q ≠ 29 → r q = ρ q) ∧ (∀ i, i ≠ 9 → i ≠ 10 → r 29 i = ρ 29 i)
theorem p_X_closeOpen {N : Nat} {ρ : zS} {x : Int32} : zp (zf_Weaver_closeOpen N ρ x) (fun r => CO0 ρ r) := by
  unfold zf_Weaver_closeOpen
  have go : ∀ (n : Nat) (r : zS) (v : Int32), CO0 ρ r → zp (zb_Weaver_closeOpen_2 N n r x v) (fun r => CO0 ρ r) := by
    intro n
    induction n with
    | zero => intro _ _ _; exact zp_none
    | succ n ih =>
      intro r v h
      have A : ∀ r', CO0 ρ r' → zp (zb_Weaver_closeOpen_70 (zb_Weaver_closeOpen_2 N n) N r' x v) (fun r => CO0 ρ r) := fun r' h' => by
        unfold zb_Weaver_closeOpen_70; exact ih r' (v + 1) h'
      have U9 : ∀ r' i y, CO0 ρ r' → CO0 ρ (zx_up r' 9 i y) := fun r' i y h' => ⟨fun q a b c => by rw [zu_other a]; exact h'.1 q a b c, fun j a b => by rw [zu_other (by decide)]; exact h'.2 j a b⟩
      have U10 : ∀ r' i y, CO0 ρ r' → CO0 ρ (zx_up r' 10 i y) := fun r' i y h' => ⟨fun q a b c => by rw [zu_other b]; exact h'.1 q a b c, fun j a b => by rw [zu_other (by decide)]; exact h'.2 j a b⟩
      have B : ∀ r' s, CO0 ρ r' → zp (zb_Weaver_closeOpen_49 (zb_Weaver_closeOpen_2 N n) N r' x v s) (fun r => CO0 ρ r) := fun r' s h' => by
        unfold zb_Weaver_closeOpen_49
        exact zp_ite (fun _ => A r' h') fun _ => zp_chk fun _ => A _ (U10 r' _ _ h')
      rw [zb_Weaver_closeOpen_2]
      refine zp_ite (fun _ => zp_some ⟨fun q a b c => ?_, fun i a b => ?_⟩) fun _ => zp_ite (fun _ => A r h) fun _ => zp_ite (fun _ => A r h) fun _ => zp_ite (fun _ => B r _ h) fun _ => zp_chk fun _ => B _ _ (U9 r _ _ h)
      · rw [zu_other c, zu_other c]; exact h.1 q a b c
      · rw [zx_up_same, zu_ne b, zx_up_same, zu_ne a]; exact h.2 i a b
  exact go N ρ 0 ⟨fun _ _ _ _ => rfl, fun _ _ _ => rfl⟩
theorem z24 {t L : Nat} (ht : t < 4) (hL : L ≤ 24) : (Int32.ofNat t * 24 + Int32.ofNat L).toNatClampNeg = 24 * t + L ∧ (24 * Int32.ofNat t + Int32.ofNat L).toNatClampNeg = 24 * t + L ∧ Int32.ofNat t * 24 + Int32.ofNat L = Int32.ofNat (24 * t + L) ∧ 24 * Int32.ofNat t + Int32.ofNat L = Int32.ofNat (24 * t + L) := by
  have e : 24 * Int32.ofNat t = Int32.ofNat (24 * t) := by
    apply Int32.toInt_inj.mp
    have k6 : (24 : Int32).toInt = 24 := rfl
    rw [Int32.toInt_mul, zo_ti (by omega), zo_ti (by omega), k6, Int.bmod_def]
    omega
  have e2 : Int32.ofNat t * 24 = Int32.ofNat (24 * t) := by rw [Int32.mul_comm]; exact e
  have s : Int32.ofNat (24 * t) + Int32.ofNat L = Int32.ofNat (24 * t + L) := by
    apply Int32.toInt_inj.mp
    have a := zo_ti (m := 24 * t) (by omega)
    have b := zo_ti (m := L) (by omega)
    rw [z_ti_add (by omega) (by omega), a, b, zo_ti (by omega)]
    omega
  rw [e, e2, s]
  exact ⟨zo_n (by omega), zo_n (by omega), rfl, rfl⟩
theorem p_X_lengthOf {ρ : zS} {t : Nat} (ht : t < 4) : zp (zf_Program_lengthOf ρ (Int32.ofNat t)) (fun r => r = ρ 5 t) := by
  unfold zf_Program_lengthOf
  refine zp_ite (fun d => ?_) fun _ => zp_ite (fun d => ?_) fun _ => zp_chk fun _ => zp_some (by rw [zo_n (by omega)])
  · have := (zo_lt (k := t) (j := 0) (by omega) (by omega)).mp d
    omega
  · have := (zo_le (k := 4) (j := t) (by omega) (by omega)).mp d
    omega
theorem zo_plus {x : Int32} {i j : Nat} (hx : x = Int32.ofNat i) (h : i + j ≤ 100000) : x + Int32.ofNat j = Int32.ofNat (i + j) := by
  subst hx
  apply Int32.toInt_inj.mp
  have a := zo_ti (m := i) (by omega)
  have b := zo_ti (m := j) (by omega)
  rw [z_ti_add (by omega) (by omega), a, b, zo_ti (by omega)]
  omega
theorem zo_pred {n : Nat} (h : 0 < n) (hn : n ≤ 100000) : Int32.ofNat n - 1 = Int32.ofNat (n - 1) := by
  apply Int32.toInt_inj.mp
  have k : (1 : Int32).toInt = 1 := rfl
  rw [Int32.toInt_sub, zo_ti hn, zo_ti (by omega), k, Int.bmod_def]
  omega
theorem p_X_slotOf {ρ : zS} {t s : Nat} (ht : t < 4) (hs : s < 24) (hl : Int32.ofNat s < ρ 5 t) : zp (zf_Program_slotOf ρ (Int32.ofNat t) (Int32.ofNat s)) (fun r => r = Int32.ofNat (24 * t + s)) := by
  unfold zf_Program_slotOf zb_Program_slotOf_33 zb_Program_slotOf_34
  have A : zp (if (1 : Int32) = 0 then some (96 : Int32) else some (Int32.ofNat t * 24 + Int32.ofNat s)) (fun r => r = Int32.ofNat (24 * t + s)) := zp_ite (fun q => absurd q (by decide)) fun _ => zp_some (z24 ht (by omega)).2.2.1
  have n1 : ¬ Int32.ofNat t < 0 := fun q => by have := (zo_lt (k := t) (j := 0) (by omega) (by omega)).mp q; omega
  have n2 : ¬ 4 ≤ Int32.ofNat t := fun q => by have := (zo_le (k := 4) (j := t) (by omega) (by omega)).mp q; omega
  have n3 : ¬ Int32.ofNat s < 0 := fun q => by have := (zo_lt (k := s) (j := 0) (by omega) (by omega)).mp q; omega
  have n4 : ¬ 24 ≤ Int32.ofNat s := fun q => by have := (zo_le (k := 24) (j := s) (by omega) (by omega)).mp q; omega
  rw [zo_n (m := t) (by omega)]
  have n5 : ¬ ρ 5 t ≤ Int32.ofNat s := Int32.not_le.mpr hl
  simp only [n1, n2, n3, n4, n5, if_false]
  have e := (z24 ht (show s ≤ 24 by omega)).2.2.1
  refine fun r hr => ?_
  simp [e] at hr
  grind
