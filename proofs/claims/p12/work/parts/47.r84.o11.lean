-- both answer alike
set_option maxRecDepth 2000
def dpt (P : Nat → Nat) : Nat → Nat → Nat
  | 0, _ => 0
  | k + 1, j => if j = 0 then 0 else dpt P k (P j) + 1
theorem dpt_z {P : Nat → Nat} {k : Nat} : dpt P k 0 = 0 := by
  cases k with
  | zero => rfl
  | succ k => rw [dpt, if_pos rfl]
theorem dpt_fuel {P : Nat → Nat} {n : Nat} (hP : ∀ j, 0 < j → j < n → P j < j) : ∀ (k j : Nat), j ≤ k → j < n → dpt P (k + 1) j = dpt P k j := by
  intro k
  induction k with
  | zero => intro j hj _; rw [show j = 0 by omega, dpt_z, dpt_z]
  | succ k ih =>
    intro j hj hn
    by_cases c : j = 0
    · rw [c, dpt_z, dpt_z]
    · have p := hP j (by omega) hn
      rw [dpt, if_neg c, ih (P j) (by omega) (by omega)]
      rw [dpt, if_neg c]
theorem dpt_le {P : Nat → Nat} {n : Nat} (hP : ∀ j, 0 < j → j < n → P j < j) : ∀ (k j : Nat), j < n → dpt P k j ≤ j := by
  intro k
  induction k with
  | zero => intro j _; exact Nat.zero_le _
  | succ k ih =>
    intro j hn
    by_cases c : j = 0
    · rw [c, dpt_z]; exact Nat.le_refl _
    · have p := hP j (by omega) hn
      have i := ih (P j) (by omega)
      rw [dpt, if_neg c]
      omega
theorem dpt_s {P : Nat → Nat} {n : Nat} (hP : ∀ j, 0 < j → j < n → P j < j) {j : Nat} (j0 : 0 < j) (hn : j < n) (h4 : n ≤ 4000) : dpt P 4000 j = dpt P 4000 (P j) + 1 := by
  have p := hP j j0 hn
  have a : dpt P (4000 + 1) j = dpt P 4000 j := dpt_fuel hP 4000 j (by omega) hn
  rw [← a, dpt, if_neg (by omega)]
def anc (P : Nat → Nat) (j : Nat) : Nat → Nat
  | 0 => j
  | r + 1 => P (anc P j r)
theorem anc_dpt {P : Nat → Nat} {n j : Nat} (hP : ∀ j, 0 < j → j < n → P j < j) (hn : j < n) (h4 : n ≤ 4000) : ∀ r, r ≤ dpt P 4000 j → anc P j r < n ∧ dpt P 4000 (anc P j r) + r = dpt P 4000 j := by
  intro r
  induction r with
  | zero => intro _; exact ⟨hn, rfl⟩
  | succ r ih =>
    intro h
    obtain ⟨a, b⟩ := ih (by omega)
    have pos : 0 < anc P j r := by
      by_cases c : anc P j r = 0
      · rw [c, dpt_z] at b; omega
      · omega
    have p := hP _ pos a
    have d := dpt_s hP pos a h4
    show P (anc P j r) < n ∧ dpt P 4000 (P (anc P j r)) + (r + 1) = dpt P 4000 j
    exact ⟨by omega, by omega⟩
theorem z_m1 (x : Int32) : x + (-1) = x - 1 := (Int32.sub_eq_add_neg x 1).symm
theorem z_div4 {p q : Nat} (hp : p ≤ 4000) (hq : q < 4) : Int32.ofNat (4 * p + q) / 4 = Int32.ofNat p ∧ zJ_rem (Int32.ofNat (4 * p + q)) 4 = Int32.ofNat q := by
  have k : (4 : Int32).toInt = 4 := rfl
  have d : Int32.ofNat (4 * p + q) / 4 = Int32.ofNat p := by
    apply Int32.toInt_inj.mp
    rw [Int32.toInt_div_of_ne_right _ _ (by decide), zo_ti (by omega), zo_ti (by omega), k, Int.tdiv_eq_ediv_of_nonneg (by omega)]
    omega
  refine ⟨d, ?_⟩
  unfold zJ_rem
  rw [d]
  show Int32.ofNat (4 * p + q) - Int32.ofNat p * Int32.ofNat 4 = _
  rw [← Int32.ofNat_mul, show 4 * p + q = q + p * 4 by omega, Int32.ofNat_add, Int32.add_sub_cancel]
def SCH (P Q : Nat → Nat) (j : Nat) (f : Nat → Int32) : Prop := ∀ r, r < dpt P 4000 j → f (dpt P 4000 j - 1 - r) = Int32.ofNat (Q (anc P j r))
theorem SCH.one {P Q : Nat → Nat} {j : Nat} {f g : Nat → Int32} (h : SCH P Q j f) (k : SCH P Q j g) {i : Nat} (hi : i < dpt P 4000 j) : f i = g i := by
  have a := h (dpt P 4000 j - 1 - i) (by omega)
  have b := k (dpt P 4000 j - 1 - i) (by omega)
  rw [show dpt P 4000 j - 1 - (dpt P 4000 j - 1 - i) = i by omega] at a b
  rw [a, b]
theorem c_wayTo {N n m j : Nat} {P Q : Nat → Nat} {σ : zS} (m4 : m ≤ 4) (n4 : n ≤ 4000) (h6 : σ 41 6 = Int32.ofNat n) (wy : WAYS m P Q (σ 43) n) (hj : j < n) : zp (zf_Space_wayTo N σ (Int32.ofNat j)) (fun r => r.1 = Int32.ofNat (dpt P 4000 j) ∧ SCH P Q j (r.2 81) ∧ ∀ q, q ≠ 81 → r.2 q = σ q) := by
  have hP : ∀ j, 0 < j → j < n → P j < j := fun j a b => (wy j a b).2.1
  have D := dpt_le hP 4000 j hj
  have wr : ∀ (i r : Nat) (ν : zS), r ≤ dpt P 4000 j → (∀ q, q ≠ 81 → ν q = σ q) → (∀ r', r' < r → ν 81 (dpt P 4000 j - 1 - r') = Int32.ofNat (Q (anc P j r'))) → zp (zb_Space_wayTo_51 N i ν (Int32.ofNat (dpt P 4000 j)) (Int32.ofNat (dpt P 4000 j - r) - 1) (Int32.ofNat (anc P j r))) (fun r => r.1 = Int32.ofNat (dpt P 4000 j) ∧ SCH P Q j (r.2 81) ∧ ∀ q, q ≠ 81 → r.2 q = σ q) := by
    intro i
    induction i with
    | zero => intro _ _ _ _ _; exact zp_none
    | succ i ih =>
      intro r ν hr fr f
      obtain ⟨al, ad⟩ := anc_dpt hP hj n4 r hr
      rw [zb_Space_wayTo_51]
      unfold zb_Space_wayTo_90
      by_cases c : r = dpt P 4000 j
      · have az : anc P j r = 0 := by
          by_cases d : anc P j r = 0
          · exact d
          · have := dpt_s hP (by omega) al n4
            omega
        rw [az]
        refine zp_ite (fun _ => zp_some ⟨rfl, fun r' h' => f r' (by omega), fr⟩) fun q => absurd (by decide) q
      · have pos : 0 < anc P j r := by
          by_cases d : anc P j r = 0
          · rw [d, dpt_z] at ad; omega
          · omega
        obtain ⟨w43, p1, p2⟩ := wy _ pos al
        have dv := z_div4 (p := P (anc P j r)) (q := Q (anc P j r)) (by omega) (by omega)
        rw [zo_pred (show 0 < dpt P 4000 j - r by omega) (by omega)]
        refine zp_ite (fun q => ?_) fun _ => zp_bind (zp_mono (c_has (by rw [fr 41 (by decide)]; exact h6) n4 al) fun r3 h3 => zp_ite (fun z => absurd (h3.symm.trans z) (by decide)) fun _ => zp_ite (fun q => ?_) fun _ => zp_ite (fun q => ?_) fun _ => ?_)
        · have := (zo_le (k := anc P j r) (j := 0) (by omega) (by omega)).mp q
          omega
        · have := (zo_lt (k := dpt P 4000 j - r - 1) (j := 0) (by omega) (by omega)).mp q
          omega
        · have := (zo_le (k := 4000) (j := dpt P 4000 j - r - 1) (by omega) (by omega)).mp q
          omega
        · rw [zo_n (m := anc P j r) (by omega), zo_n (m := dpt P 4000 j - r - 1) (by omega), zu_other (by decide), fr 43 (by decide), w43, dv.1, dv.2]
          refine zp_chk fun _ => zp_chk fun _ => zp_chk fun _ => ?_
          have e : Int32.ofNat (dpt P 4000 j - r - 1) + (-1) = Int32.ofNat (dpt P 4000 j - (r + 1)) - 1 := by
            rw [show dpt P 4000 j - r - 1 = dpt P 4000 j - (r + 1) by omega, z_m1]
          rw [e]
          refine ih (r + 1) _ (by omega) (fun q hq => by rw [zu_other hq]; exact fr q hq) fun r' h' => ?_
          rw [zx_up_same]
          by_cases d : r' = r
          · rw [d, show dpt P 4000 j - 1 - r = dpt P 4000 j - r - 1 by omega, zu_eq]
          · rw [zu_ne (by omega)]
            exact f r' (by omega)
  have ct : ∀ (i r : Nat), r ≤ dpt P 4000 j → zp (zb_Space_wayTo_5 N i σ (Int32.ofNat j) (Int32.ofNat r) (Int32.ofNat (anc P j r))) (fun r => r.1 = Int32.ofNat (dpt P 4000 j) ∧ SCH P Q j (r.2 81) ∧ ∀ q, q ≠ 81 → r.2 q = σ q) := by
    intro i
    induction i with
    | zero => intro _ _; exact zp_none
    | succ i ih =>
      intro r hr
      obtain ⟨al, ad⟩ := anc_dpt hP hj n4 r hr
      rw [zb_Space_wayTo_5]
      unfold zb_Space_wayTo_43
      have done : r = dpt P 4000 j → zp (zb_Space_wayTo_51 N N σ (Int32.ofNat r) (Int32.ofNat r - 1) (Int32.ofNat j)) (fun r => r.1 = Int32.ofNat (dpt P 4000 j) ∧ SCH P Q j (r.2 81) ∧ ∀ q, q ≠ 81 → r.2 q = σ q) := fun e => by
        rw [e]
        have k := wr N 0 σ (Nat.zero_le _) (fun _ _ => rfl) fun r' h' => absurd h' (Nat.not_lt_zero _)
        rw [Nat.sub_zero] at k
        exact k
      by_cases c : r = dpt P 4000 j
      · have az : anc P j r = 0 := by
          by_cases d : anc P j r = 0
          · exact d
          · have := dpt_s hP (by omega) al n4
            omega
        rw [az]
        exact zp_ite (fun _ => done c) fun q => absurd (by decide) q
      · have pos : 0 < anc P j r := by
          by_cases d : anc P j r = 0
          · rw [d, dpt_z] at ad; omega
          · omega
        obtain ⟨w43, p1, p2⟩ := wy _ pos al
        have dv := z_div4 (p := P (anc P j r)) (q := Q (anc P j r)) (by omega) (by omega)
        refine zp_ite (fun q => ?_) fun _ => zp_bind (zp_mono (c_has h6 n4 al) fun r3 h3 => zp_ite (fun z => absurd (h3.symm.trans z) (by decide)) fun _ => zp_ite (fun q => ?_) fun _ => zp_chk fun _ => ?_)
        · have := (zo_le (k := anc P j r) (j := 0) (by omega) (by omega)).mp q
          omega
        · have := (zo_le (k := 4000) (j := r) (by omega) (by omega)).mp q
          omega
        · rw [zo_n (m := anc P j r) (by omega), w43, dv.1, zo_1 (m := r) (by omega)]
          exact ih (r + 1) (by omega)
  unfold zf_Space_wayTo
  exact ct N 0 (Nat.zero_le _)
theorem m_showW {N n j : Nat} {P Q : Nat → Nat} {μ : zS} (n4 : n ≤ 4000) (hP : ∀ j, 0 < j → j < n → P j < j) (wy : ∀ j, 0 < j → j < n → μ 111 j = Int32.ofNat (P j) ∧ μ 112 j = Int32.ofNat (Q j)) (hj : j < n) (z62 : μ 82 62 = 0) : zp (zb_M_show_38 N N μ (Int32.ofNat j) (Int32.ofNat j)) (fun r => r.1 = Int32.ofNat j ∧ r.2 82 62 = Int32.ofNat (dpt P 4000 j) ∧ SCH P Q j (r.2 116) ∧ (∀ q, q ≠ 82 → q ≠ 116 → r.2 q = μ q) ∧ ∀ i, i ≠ 62 → r.2 82 i = μ 82 i) := by
  have D := dpt_le hP 4000 j hj
  have wr : ∀ (i r : Nat) (ν : zS), r ≤ dpt P 4000 j → (∀ q, q ≠ 82 → q ≠ 116 → ν q = μ q) → (ν 82 62 = Int32.ofNat (dpt P 4000 j) ∧ ∀ i, i ≠ 62 → ν 82 i = μ 82 i) → (∀ r', r' < r → ν 116 (dpt P 4000 j - 1 - r') = Int32.ofNat (Q (anc P j r'))) → zp (zb_M_show_74 N i ν (Int32.ofNat j) (Int32.ofNat (dpt P 4000 j - r)) (Int32.ofNat (anc P j r))) (fun r => r.1 = Int32.ofNat j ∧ r.2 82 62 = Int32.ofNat (dpt P 4000 j) ∧ SCH P Q j (r.2 116) ∧ (∀ q, q ≠ 82 → q ≠ 116 → r.2 q = μ q) ∧ ∀ i, i ≠ 62 → r.2 82 i = μ 82 i) := by
    intro i
    induction i with
    | zero => intro _ _ _ _ _ _; exact zp_none
    | succ i ih =>
      intro r ν hr fr f82 f
      obtain ⟨al, ad⟩ := anc_dpt hP hj n4 r hr
      rw [zb_M_show_74]
      by_cases c : r = dpt P 4000 j
      · have az : anc P j r = 0 := by
          by_cases d : anc P j r = 0
          · exact d
          · have := dpt_s hP (by omega) al n4
            omega
        rw [az]
        exact zp_ite (fun _ => zp_some ⟨rfl, f82.1, fun r' h' => f r' (by omega), fr, f82.2⟩) fun q => absurd (by decide) q
      · have pos : 0 < anc P j r := by
          by_cases d : anc P j r = 0
          · rw [d, dpt_z] at ad; omega
          · omega
        obtain ⟨w1, w2⟩ := wy _ pos al
        have p1 := hP _ pos al
        have e : Int32.ofNat (dpt P 4000 j - r) + (-1) = Int32.ofNat (dpt P 4000 j - (r + 1)) := by
          rw [z_m1, zo_pred (by omega) (by omega), show dpt P 4000 j - r - 1 = dpt P 4000 j - (r + 1) by omega]
        refine zp_ite (fun q => ?_) fun _ => ?_
        · have := (zo_le (k := anc P j r) (j := 0) (by omega) (by omega)).mp q
          omega
        · rw [e, zo_n (m := anc P j r) (by omega), zo_n (m := dpt P 4000 j - (r + 1)) (by omega), fr 111 (by decide) (by decide), fr 112 (by decide) (by decide), w1, w2]
          refine zp_chk fun _ => zp_chk fun _ => zp_chk fun _ => ih (r + 1) _ (by omega) (fun q a b => by rw [zu_other b]; exact fr q a b) (by rw [zu_other (by decide)]; exact f82) fun r' h' => ?_
          rw [zx_up_same]
          by_cases d : r' = r
          · rw [d, show dpt P 4000 j - 1 - r = dpt P 4000 j - (r + 1) by omega, zu_eq]
          · rw [zu_ne (by omega)]
            exact f r' (by omega)
  have ct : ∀ (i r : Nat) (ν : zS), r ≤ dpt P 4000 j → (∀ q, q ≠ 82 → ν q = μ q) → (ν 82 62 = Int32.ofNat r ∧ ∀ i, i ≠ 62 → ν 82 i = μ 82 i) → zp (zb_M_show_38 N i ν (Int32.ofNat j) (Int32.ofNat (anc P j r))) (fun r => r.1 = Int32.ofNat j ∧ r.2 82 62 = Int32.ofNat (dpt P 4000 j) ∧ SCH P Q j (r.2 116) ∧ (∀ q, q ≠ 82 → q ≠ 116 → r.2 q = μ q) ∧ ∀ i, i ≠ 62 → r.2 82 i = μ 82 i) := by
    intro i
    induction i with
    | zero => intro _ _ _ _ _; exact zp_none
    | succ i ih =>
      intro r ν hr fr f82
      obtain ⟨al, ad⟩ := anc_dpt hP hj n4 r hr
      rw [zb_M_show_38]
      by_cases c : r = dpt P 4000 j
      · have az : anc P j r = 0 := by
          by_cases d : anc P j r = 0
          · exact d
          · have := dpt_s hP (by omega) al n4
            omega
        rw [az, f82.1, c]
        refine zp_ite (fun _ => ?_) fun q => absurd (by decide) q
        have k := wr N 0 ν (Nat.zero_le _) (fun q a _ => fr q a) (by rw [← c]; exact f82) fun r' h' => absurd h' (Nat.not_lt_zero _)
        rw [Nat.sub_zero] at k
        exact k
      · have pos : 0 < anc P j r := by
          by_cases d : anc P j r = 0
          · rw [d, dpt_z] at ad; omega
          · omega
        obtain ⟨w1, w2⟩ := wy _ pos al
        refine zp_ite (fun q => ?_) fun _ => zp_chk fun _ => ?_
        · have := (zo_le (k := anc P j r) (j := 0) (by omega) (by omega)).mp q
          omega
        · rw [zo_n (m := anc P j r) (by omega), fr 111 (by decide), w1, f82.1, zo_1 (m := r) (by omega)]
          refine ih (r + 1) _ (by omega) (fun q hq => by rw [zu_other hq]; exact fr q hq) ⟨by rw [zx_up_same, zu_eq], fun i hi => by rw [zx_up_same, zu_ne hi]; exact f82.2 i hi⟩
  exact ct N 0 μ (Nat.zero_le _) (fun _ _ => rfl) ⟨z62, fun _ _ => rfl⟩
