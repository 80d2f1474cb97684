-- both answer alike
set_option maxRecDepth 2000
def SPA (_σ0 μ : zS) : Prop := (∀ t s k : Nat, t < 4 → Int32.ofNat t < μ 82 17 → s < 24 → Int32.ofNat s < μ 90 t → k < 6 → μ 97 (24 * t + s) = Int32.ofNat k → Int32.ofNat k < μ 82 25 ∧ μ 91 k = Int32.ofNat t) ∧ (0 < μ 82 17 → ∀ k : Nat, k < 6 → μ 82 41 = Int32.ofNat k → Int32.ofNat k < μ 82 25 ∧ μ 91 k = μ 82 39) ∧ (0 ≤ μ 82 25 ∧ μ 82 25 ≤ 6) ∧ (∀ t, t < 4 → 0 ≤ μ 90 t ∧ μ 90 t ≤ 24)
theorem SPA.of {σ0 σ1 σ r : zS} (h : SPA σ0 σ) (e : r 90 = σ 90 ∧ r 91 = σ 91 ∧ r 97 = σ 97) (f : r 82 17 = σ 82 17 ∧ r 82 25 = σ 82 25 ∧ r 82 39 = σ 82 39 ∧ r 82 41 = σ 82 41) : SPA σ1 r := by
  unfold SPA at *
  rw [e.1, e.2.1, e.2.2, f.1, f.2.1, f.2.2.1, f.2.2.2]
  exact h
theorem SPA.up {σ0 σ : zS} {p i : Nat} {x : Int32} (hp : 82 ≠ p ∧ 90 ≠ p ∧ 91 ≠ p ∧ 97 ≠ p) (h : SPA σ0 σ) : SPA σ0 (zx_up σ p i x) := h.of ⟨zu_other hp.2.1, zu_other hp.2.2.1, zu_other hp.2.2.2⟩ ⟨by rw [zu_other hp.1], by rw [zu_other hp.1], by rw [zu_other hp.1], by rw [zu_other hp.1]⟩
theorem SPA.u8 {σ0 σ : zS} {i : Nat} {x : Int32} (hi : 17 ≠ i ∧ 25 ≠ i ∧ 39 ≠ i ∧ 41 ≠ i) (h : SPA σ0 σ) : SPA σ0 (zx_up σ 82 i x) := h.of ⟨zu_other (by decide), zu_other (by decide), zu_other (by decide)⟩ ⟨by rw [zx_up_same, zu_ne hi.1], by rw [zx_up_same, zu_ne hi.2.1], by rw [zx_up_same, zu_ne hi.2.2.1], by rw [zx_up_same, zu_ne hi.2.2.2]⟩
theorem SPA.m1 {σ0 σ : zS} (h : SPA σ0 σ) : SPA σ0 (zx_up σ 82 41 (-1)) := by
  obtain ⟨h1, h2, h3, h4⟩ := h
  have e : ∀ q, q ≠ 82 → (zx_up σ 82 41 (-1)) q = σ q := fun q hq => zu_other hq
  have f : ∀ i, i ≠ 41 → (zx_up σ 82 41 (-1)) 82 i = σ 82 i := fun i hi => by rw [zx_up_same, zu_ne hi]
  have g : (zx_up σ 82 41 (-1)) 82 41 = -1 := by rw [zx_up_same, zu_eq]
  generalize (zx_up σ 82 41 (-1)) = r at e f g
  unfold SPA
  rw [e 90 (by decide), e 91 (by decide), e 97 (by decide), f 17 (by decide), f 25 (by decide), f 39 (by decide), g]
  exact ⟨h1, fun _ k hk q => absurd q.symm (zo_ne (by omega)), h3, h4⟩
theorem SPA.span {σ0 σ : zS} (ck : 0 ≤ σ 82 25 ∧ σ 82 25 < 6) (h : SPA σ0 σ) : SPA σ0 (zx_up (zx_up (zx_up σ 82 41 (σ 82 25)) 91 (σ 82 25).toNatClampNeg (σ 82 39)) 82 25 (σ 82 25 + 1)) := by
  obtain ⟨h1, h2, h3, h4⟩ := h
  obtain ⟨c, c6, ec⟩ := z_ex (m := 6) (by omega) ck.1 ck.2
  rw [ec, zo_n (m := c) (by omega), zo_1 (m := c) (by omega)]
  have e : ∀ q, q ≠ 82 → q ≠ 91 → (zx_up (zx_up (zx_up σ 82 41 (Int32.ofNat c)) 91 c (σ 82 39)) 82 25 (Int32.ofNat (c + 1))) q = σ q := fun q a b => by rw [zu_other a, zu_other b, zu_other a]
  have f : ∀ i, i ≠ 41 → i ≠ 25 → (zx_up (zx_up (zx_up σ 82 41 (Int32.ofNat c)) 91 c (σ 82 39)) 82 25 (Int32.ofNat (c + 1))) 82 i = σ 82 i := fun i a b => by rw [zx_up_same, zu_ne b, zu_other (by decide), zx_up_same, zu_ne a]
  have g41 : (zx_up (zx_up (zx_up σ 82 41 (Int32.ofNat c)) 91 c (σ 82 39)) 82 25 (Int32.ofNat (c + 1))) 82 41 = Int32.ofNat c := by rw [zx_up_same, zu_ne (by decide), zu_other (by decide), zx_up_same, zu_eq]
  have g25 : (zx_up (zx_up (zx_up σ 82 41 (Int32.ofNat c)) 91 c (σ 82 39)) 82 25 (Int32.ofNat (c + 1))) 82 25 = Int32.ofNat (c + 1) := by rw [zx_up_same, zu_eq]
  have g91 : (zx_up (zx_up (zx_up σ 82 41 (Int32.ofNat c)) 91 c (σ 82 39)) 82 25 (Int32.ofNat (c + 1))) 91 = zu (σ 91) c (σ 82 39) := by rw [zu_other (by decide), zx_up_same, zu_other (by decide)]
  generalize (zx_up (zx_up (zx_up σ 82 41 (Int32.ofNat c)) 91 c (σ 82 39)) 82 25 (Int32.ofNat (c + 1))) = r at e f g41 g25 g91
  unfold SPA
  rw [e 90 (by decide) (by decide), e 97 (by decide) (by decide), f 17 (by decide) (by decide), f 39 (by decide) (by decide), g41, g25, g91]
  refine ⟨fun t s k t4 ht s24 hs k6 ek => ?_, fun _ k k6 ek => ?_, ⟨(zo_le (k := 0) (j := c + 1) (by omega) (by omega)).mpr (Nat.zero_le _), (zo_le (k := c + 1) (j := 6) (by omega) (by omega)).mpr (by omega)⟩, h4⟩
  · obtain ⟨a, b⟩ := h1 t s k t4 ht s24 hs k6 ek
    rw [ec] at a
    have kc := (zo_lt (k := k) (j := c) (by omega) (by omega)).mp a
    exact ⟨(zo_lt (by omega) (by omega)).mpr (by omega), by rw [zu_ne (by omega)]; exact b⟩
  · have kc : c = k := zo_inj (by omega) (by omega) ek
    rw [← kc, zu_eq]
    exact ⟨(zo_lt (by omega) (by omega)).mpr (by omega), rfl⟩
theorem SPA.add {σ0 σ r : zS} {T n : Nat} (h : SPA σ0 σ) (T4 : T < 4) (n24 : n < 24) (eT : σ 82 39 = Int32.ofNat T) (en : σ 90 T = Int32.ofNat n) (e97 : r 97 = zu (σ 97) (24 * T + n) (σ 82 41)) (e90 : r 90 = zu (σ 90) T (Int32.ofNat (n + 1))) (e91 : r 91 = σ 91) (f : r 82 17 = σ 82 17 ∧ r 82 25 = σ 82 25 ∧ r 82 39 = σ 82 39 ∧ r 82 41 = σ 82 41) : SPA σ0 r := by
  obtain ⟨h1, h2, h3, h4⟩ := h
  unfold SPA
  rw [e97, e90, e91, f.1, f.2.1, f.2.2.1, f.2.2.2]
  refine ⟨fun t s k t4 ht s24 hs k6 ek => ?_, h2, h3, fun t t4 => ?_⟩
  · by_cases c : 24 * t + s = 24 * T + n
    · have tT : t = T := by omega
      rw [c, zu_eq] at ek
      have p : 0 < σ 82 17 := Int32.lt_of_le_of_lt ((zo_le (k := 0) (j := t) (by omega) (by omega)).mpr (Nat.zero_le _)) ht
      obtain ⟨a, b⟩ := h2 p k k6 ek
      exact ⟨a, by rw [b, eT, tT]⟩
    · rw [zu_ne c] at ek
      refine h1 t s k t4 ht s24 ?_ k6 ek
      by_cases d : t = T
      · rw [d, zu_eq] at hs
        have := (zo_lt (k := s) (j := n + 1) (by omega) (by omega)).mp hs
        rw [d, en]
        exact (zo_lt (by omega) (by omega)).mpr (by omega)
      · rw [zu_ne d] at hs
        exact hs
  · by_cases d : t = T
    · rw [d, zu_eq]
      exact ⟨(zo_le (k := 0) (j := n + 1) (by omega) (by omega)).mpr (Nat.zero_le _), (zo_le (k := n + 1) (j := 24) (by omega) (by omega)).mpr (by omega)⟩
    · rw [zu_ne d]
      exact h4 t t4
def SPF (σ0 σ : zS) : Prop := (σ 90 = σ0 90 ∧ σ 91 = σ0 91 ∧ σ 97 = σ0 97) ∧ (σ 82 17 = σ0 82 17 ∧ σ 82 25 = σ0 82 25 ∧ σ 82 39 = σ0 82 39 ∧ σ 82 41 = σ0 82 41)
theorem SPF.rfl' {σ : zS} : SPF σ σ := ⟨⟨rfl, rfl, rfl⟩, rfl, rfl, rfl, rfl⟩
theorem SPF.up {σ0 σ : zS} {p i : Nat} {x : Int32} (hp : 82 ≠ p ∧ 90 ≠ p ∧ 91 ≠ p ∧ 97 ≠ p) (h : SPF σ0 σ) : SPF σ0 (zx_up σ p i x) := ⟨⟨by rw [zu_other hp.2.1]; exact h.1.1, by rw [zu_other hp.2.2.1]; exact h.1.2.1, by rw [zu_other hp.2.2.2]; exact h.1.2.2⟩, by rw [zu_other hp.1]; exact h.2.1, by rw [zu_other hp.1]; exact h.2.2.1, by rw [zu_other hp.1]; exact h.2.2.2.1, by rw [zu_other hp.1]; exact h.2.2.2.2⟩
theorem SPF.u8 {σ0 σ : zS} {i : Nat} {x : Int32} (hi : 17 ≠ i ∧ 25 ≠ i ∧ 39 ≠ i ∧ 41 ≠ i) (h : SPF σ0 σ) : SPF σ0 (zx_up σ 82 i x) := ⟨⟨by rw [zu_other (by decide)]; exact h.1.1, by rw [zu_other (by decide)]; exact h.1.2.1, by rw [zu_other (by decide)]; exact h.1.2.2⟩, by rw [zx_up_same, zu_ne hi.1]; exact h.2.1, by rw [zx_up_same, zu_ne hi.2.1]; exact h.2.2.1, by rw [zx_up_same, zu_ne hi.2.2.1]; exact h.2.2.2.1, by rw [zx_up_same, zu_ne hi.2.2.2]; exact h.2.2.2.2⟩
theorem sg_b_M_next_361 {σ0 : zS} {N : Nat} {σ : zS} {v2 : Int32} {s0 : Int32}  (hs : SPF σ0 σ) : zp (zb_M_next_361 N σ v2 s0) (fun r => SPF σ0 r) := by
  unfold zb_M_next_361
  exact zp_some (SPF.u8 (by decide) (SPF.u8 (by decide) hs))
theorem sg_b_M_next_348 {σ0 : zS} {N : Nat} {σ : zS} {v2 : Int32} {s0 : Int32}  (hs : SPF σ0 σ) : zp (zb_M_next_348 N σ v2 s0) (fun r => SPF σ0 r) := by
  unfold zb_M_next_348
  refine zp_ite (fun _ => ?_) fun _ => ?_
  ·
    exact sg_b_M_next_361  hs
  ·
    exact sg_b_M_next_361  hs
theorem sg_b_M_next_343 {σ0 : zS} {N : Nat} {σ : zS} {v2 : Int32}  (hs : SPF σ0 σ) : zp (zb_M_next_343 N σ v2) (fun r => SPF σ0 r) := by
  unfold zb_M_next_343
  exact sg_b_M_next_348  hs
theorem sg_b_M_next_295 {σ0 : zS} {N : Nat} {σ : zS} {v2 : Int32}  (hs : SPF σ0 σ) : zp (zb_M_next_295 N σ v2) (fun r => SPF σ0 r) := by
  unfold zb_M_next_295
  refine zp_ite (fun _ => ?_) fun _ => ?_
  ·
    exact sg_b_M_next_343  hs
  ·
    refine zp_ite (fun _ => ?_) fun _ => ?_
    ·
      exact sg_b_M_next_343  hs
    ·
      refine zp_ite (fun _ => ?_) fun _ => ?_
      ·
        exact sg_b_M_next_343  hs
      ·
        refine zp_ite (fun _ => ?_) fun _ => ?_
        ·
          exact sg_b_M_next_343  hs
        ·
          refine zp_ite (fun _ => ?_) fun _ => ?_
          ·
            exact sg_b_M_next_343  hs
          ·
            refine zp_ite (fun _ => ?_) fun _ => ?_
            ·
              exact sg_b_M_next_343  hs
            ·
              refine zp_ite (fun _ => ?_) fun _ => ?_
              ·
                exact sg_b_M_next_343  hs
              ·
                refine zp_ite (fun _ => ?_) fun _ => ?_
                ·
                  exact sg_b_M_next_348  hs
                ·
                  exact sg_b_M_next_343  hs
theorem sg_b_M_next_289 {σ0 : zS} {N : Nat} {σ : zS} {s0 : Int32}  (hs : SPF σ0 σ) : zp (zb_M_next_289 N σ s0) (fun r => SPF σ0 r) := by
  unfold zb_M_next_289
  exact zp_some (SPF.u8 (by decide) hs)
theorem sg_b_M_next_257 {σ0 : zS} {N : Nat} {σ : zS} {v2 : Int32} {v3 : Int32}  (hs : SPF σ0 σ) : zp (zb_M_next_257 N σ v2 v3) (fun r => SPF σ0 r) := by
  unfold zb_M_next_257
  refine zp_ite (fun _ => ?_) fun _ => ?_
  ·
    exact sg_b_M_next_295  hs
  ·
    refine zp_ite (fun _ => ?_) fun _ => ?_
    ·
      exact sg_b_M_next_289  (SPF.u8 (by decide) (SPF.u8 (by decide) hs))
    ·
      exact sg_b_M_next_289  (SPF.u8 (by decide) (SPF.u8 (by decide) hs))
theorem sg_b_M_next_239 {σ0 : zS} {N : Nat} {σ : zS} {s0 : Int32}  (hs : SPF σ0 σ) : zp (zb_M_next_239 N σ s0) (fun r => SPF σ0 r) := by
  unfold zb_M_next_239
  exact zp_some (SPF.u8 (by decide) hs)
theorem sg_b_M_next_234 {σ0 : zS} {N : Nat} {σ : zS}  (hs : SPF σ0 σ) : zp (zb_M_next_234 N σ) (fun r => SPF σ0 r) := by
  unfold zb_M_next_234
  exact sg_b_M_next_239  hs
theorem sg_b_M_next_161 {σ0 : zS} {N : Nat} {σ : zS} {s0 : Int32}  (hs : SPF σ0 σ) : zp (zb_M_next_161 N σ s0) (fun r => SPF σ0 r) := by
  unfold zb_M_next_161
  refine zp_ite (fun _ => ?_) fun _ => ?_
  ·
    exact zp_some (SPF.u8 (by decide) hs)
  ·
    refine zp_bind fun r35 _ => ?_
    refine zp_ite (fun _ => ?_) fun _ => ?_
    ·
      exact zp_some (SPF.u8 (by decide) hs)
    ·
      refine zp_bind fun r37 _ => ?_
      exact zp_some (SPF.u8 (by decide) (SPF.u8 (by decide) (SPF.u8 (by decide) hs)))
theorem sg_b_M_next_133 {σ0 : zS} {k101 : zS → Int32 → Option (zS)} {N : Nat} {σ : zS} {v1 : Int32} (hk101 : ∀ (y0 : zS) (y1 : Int32), SPF σ0 y0 → zp (k101 y0 y1) (fun r => SPF σ0 r)) (hs : SPF σ0 σ) : zp (zb_M_next_133 k101 N σ v1) (fun r => SPF σ0 r) := by
  unfold zb_M_next_133
  exact hk101 _ _ (SPF.u8 (by decide) hs)
theorem sg_b_M_next_101 {σ0 : zS} {N : Nat}  : ∀ (n : Nat) (σ : zS) (v1 : Int32), SPF σ0 σ → zp (zb_M_next_101 N n σ v1) (fun r => SPF σ0 r) := by
  intro n
  induction n with
  | zero => intro _ _ _; exact zp_none
  | succ n ih =>
    intro σ v1 hs
    rw [zb_M_next_101]
    refine zp_bind fun r27 _ => ?_
    refine zp_bind fun r28 _ => ?_
    refine zp_ite (fun _ => ?_) fun _ => ?_
    ·
      exact sg_b_M_next_133 (ih) hs
    ·
      refine zp_bind fun r30 _ => ?_
      refine zp_bind fun r31 _ => ?_
      refine zp_ite (fun _ => ?_) fun _ => ?_
      ·
        refine zp_ite (fun _ => ?_) fun _ => ?_
        ·
          exact sg_b_M_next_161  hs
        ·
          exact sg_b_M_next_161  hs
      ·
        exact sg_b_M_next_133 (ih) hs
theorem sg_b_M_next_44 {σ0 : zS} {N : Nat} {σ : zS} {v1 : Int32}  (hs : SPF σ0 σ) : zp (zb_M_next_44 N σ v1) (fun r => SPF σ0 r) := by
  unfold zb_M_next_44
  refine zp_bind fun r2 _ => ?_
  refine zp_bind fun r3 _ => ?_
  refine zp_ite (fun _ => ?_) fun _ => ?_
  ·
    refine zp_bind fun r5 _ => ?_
    refine zp_ite (fun _ => ?_) fun _ => ?_
    ·
      refine zp_bind fun r7 _ => ?_
      refine zp_ite (fun _ => ?_) fun _ => ?_
      ·
        refine zp_ite (fun _ => ?_) fun _ => ?_
        ·
          exact sg_b_M_next_257  (SPF.u8 (by decide) (SPF.u8 (by decide) (SPF.u8 (by decide) hs)))
        ·
          refine zp_ite (fun _ => ?_) fun _ => ?_
          ·
            exact sg_b_M_next_295  (SPF.u8 (by decide) (SPF.u8 (by decide) (SPF.u8 (by decide) hs)))
          ·
            exact sg_b_M_next_257  (SPF.u8 (by decide) (SPF.u8 (by decide) (SPF.u8 (by decide) hs)))
      ·
        refine zp_ite (fun _ => ?_) fun _ => ?_
        ·
          exact sg_b_M_next_234  (SPF.u8 (by decide) (SPF.u8 (by decide) (SPF.u8 (by decide) (SPF.u8 (by decide) hs))))
        ·
          refine zp_bind fun r23 _ => ?_
          refine zp_ite (fun _ => ?_) fun _ => ?_
          ·
            exact sg_b_M_next_234  (SPF.u8 (by decide) (SPF.u8 (by decide) (SPF.u8 (by decide) (SPF.u8 (by decide) hs))))
          ·
            refine zp_bind fun r25 _ => ?_
            refine zp_ite (fun _ => ?_) fun _ => ?_
            ·
              exact sg_b_M_next_239  (SPF.u8 (by decide) (SPF.u8 (by decide) (SPF.u8 (by decide) (SPF.u8 (by decide) hs))))
            ·
              exact sg_b_M_next_234  (SPF.u8 (by decide) (SPF.u8 (by decide) (SPF.u8 (by decide) (SPF.u8 (by decide) hs))))
    ·
      exact sg_b_M_next_101  _ _ _ (SPF.u8 (by decide) (SPF.u8 (by decide) (SPF.u8 (by decide) hs)))
  ·
    exact zp_some (SPF.u8 (by decide) (SPF.u8 (by decide) (SPF.u8 (by decide) (SPF.u8 (by decide) (SPF.u8 (by decide) hs)))))
theorem sg_b_M_next_38 {σ0 : zS} {k10 : zS → Int32 → Option (zS)} {N : Nat} {σ : zS} {v1 : Int32} (hk10 : ∀ (y0 : zS) (y1 : Int32), SPF σ0 y0 → zp (k10 y0 y1) (fun r => SPF σ0 r)) (hs : SPF σ0 σ) : zp (zb_M_next_38 k10 N σ v1) (fun r => SPF σ0 r) := by
  unfold zb_M_next_38
  exact hk10 _ _ hs
theorem sg_b_M_next_10 {σ0 : zS} {N : Nat}  : ∀ (n : Nat) (σ : zS) (v1 : Int32), SPF σ0 σ → zp (zb_M_next_10 N n σ v1) (fun r => SPF σ0 r) := by
  intro n
  induction n with
  | zero => intro _ _ _; exact zp_none
  | succ n ih =>
    intro σ v1 hs
    rw [zb_M_next_10]
    refine zp_ite (fun _ => ?_) fun _ => ?_
    ·
      exact sg_b_M_next_44  hs
    ·
      refine zp_bind fun r38 _ => ?_
      refine zp_ite (fun _ => ?_) fun _ => ?_
      ·
        exact sg_b_M_next_38 (ih) hs
      ·
        refine zp_bind fun r40 _ => ?_
        refine zp_ite (fun _ => ?_) fun _ => ?_
        ·
          exact sg_b_M_next_44  hs
        ·
          exact sg_b_M_next_38 (ih) hs
theorem sg_f_M_next {σ0 : zS} {N : Nat} {σ : zS}  (hs : SPF σ0 σ) : zp (zf_M_next N σ) (fun r => SPF σ0 r) := by
  unfold zf_M_next
  exact sg_b_M_next_10  _ _ _ hs
theorem sg_b_M_lead_62 {σ0 : zS} {k8 : zS → Int32 → Int32 → Option (zS)} {N : Nat} {σ : zS} {v1 : Int32} {v2 : Int32} (hk8 : ∀ (y0 : zS) (y1 : Int32) (y2 : Int32), SPF σ0 y0 → zp (k8 y0 y1 y2) (fun r => SPF σ0 r)) (hs : SPF σ0 σ) : zp (zb_M_lead_62 k8 N σ v1 v2) (fun r => SPF σ0 r) := by
  unfold zb_M_lead_62
  exact hk8 _ _ _ hs
theorem sg_b_M_lead_8 {σ0 : zS} {N : Nat}  : ∀ (n : Nat) (σ : zS) (v1 : Int32) (v2 : Int32), SPF σ0 σ → zp (zb_M_lead_8 N n σ v1 v2) (fun r => SPF σ0 r) := by
  intro n
  induction n with
  | zero => intro _ _ _ _; exact zp_none
  | succ n ih =>
    intro σ v1 v2 hs
    rw [zb_M_lead_8]
    refine zp_ite (fun _ => ?_) fun _ => ?_
    ·
      exact zp_some hs
    ·
      refine zp_chk fun _ => ?_
      refine zp_ite (fun _ => ?_) fun _ => ?_
      ·
        refine zp_chk fun _ => ?_
        exact sg_b_M_lead_62 (ih) (SPF.up (by decide) (SPF.u8 (by decide) hs))
      ·
        refine zp_chk fun _ => ?_
        exact sg_b_M_lead_62 (ih) (SPF.up (by decide) (SPF.u8 (by decide) hs))
theorem sg_f_M_lead {σ0 : zS} {N : Nat} {σ : zS} {x1 : Int32}  (hs : SPF σ0 σ) : zp (zf_M_lead N σ x1) (fun r => SPF σ0 r) := by
  unfold zf_M_lead
  exact sg_b_M_lead_8  _ _ _ _ hs
theorem sg_f_M_wayOf {σ0 : zS} {σ : zS} {x1 : Int32} {x2 : Int32}  (hs : SPF σ0 σ) : zp (zf_M_wayOf σ x1 x2) (fun r => SPF σ0 r.2) := by
  unfold zf_M_wayOf
  refine zp_chk fun _ => ?_
  exact zp_some (SPF.up (by decide) hs)
theorem sp_b_M_next_361 {σ0 : zS} {N : Nat} {σ : zS} {v2 : Int32} {s0 : Int32}  (hs : SPA σ0 σ) : zp (zb_M_next_361 N σ v2 s0) (fun r => SPA σ0 r) := by
  unfold zb_M_next_361
  exact zp_some (SPA.u8 (by decide) (SPA.u8 (by decide) hs))
theorem sp_b_M_next_348 {σ0 : zS} {N : Nat} {σ : zS} {v2 : Int32} {s0 : Int32}  (hs : SPA σ0 σ) : zp (zb_M_next_348 N σ v2 s0) (fun r => SPA σ0 r) := by
  unfold zb_M_next_348
  refine zp_ite (fun _ => ?_) fun _ => ?_
  ·
    exact sp_b_M_next_361  hs
  ·
    exact sp_b_M_next_361  hs
theorem sp_b_M_next_343 {σ0 : zS} {N : Nat} {σ : zS} {v2 : Int32}  (hs : SPA σ0 σ) : zp (zb_M_next_343 N σ v2) (fun r => SPA σ0 r) := by
  unfold zb_M_next_343
  exact sp_b_M_next_348  hs
theorem sp_b_M_next_295 {σ0 : zS} {N : Nat} {σ : zS} {v2 : Int32}  (hs : SPA σ0 σ) : zp (zb_M_next_295 N σ v2) (fun r => SPA σ0 r) := by
  unfold zb_M_next_295
  refine zp_ite (fun _ => ?_) fun _ => ?_
  ·
    exact sp_b_M_next_343  hs
  ·
    refine zp_ite (fun _ => ?_) fun _ => ?_
    ·
      exact sp_b_M_next_343  hs
    ·
      refine zp_ite (fun _ => ?_) fun _ => ?_
      ·
        exact sp_b_M_next_343  hs
      ·
        refine zp_ite (fun _ => ?_) fun _ => ?_
        ·
          exact sp_b_M_next_343  hs
        ·
          refine zp_ite (fun _ => ?_) fun _ => ?_
          ·
            exact sp_b_M_next_343  hs
          ·
            refine zp_ite (fun _ => ?_) fun _ => ?_
            ·
              exact sp_b_M_next_343  hs
            ·
              refine zp_ite (fun _ => ?_) fun _ => ?_
              ·
                exact sp_b_M_next_343  hs
              ·
                refine zp_ite (fun _ => ?_) fun _ => ?_
                ·
                  exact sp_b_M_next_348  hs
                ·
                  exact sp_b_M_next_343  hs
theorem sp_b_M_next_289 {σ0 : zS} {N : Nat} {σ : zS} {s0 : Int32}  (hs : SPA σ0 σ) : zp (zb_M_next_289 N σ s0) (fun r => SPA σ0 r) := by
  unfold zb_M_next_289
  exact zp_some (SPA.u8 (by decide) hs)
theorem sp_b_M_next_257 {σ0 : zS} {N : Nat} {σ : zS} {v2 : Int32} {v3 : Int32}  (hs : SPA σ0 σ) : zp (zb_M_next_257 N σ v2 v3) (fun r => SPA σ0 r) := by
  unfold zb_M_next_257
  refine zp_ite (fun _ => ?_) fun _ => ?_
  ·
    exact sp_b_M_next_295  hs
  ·
    refine zp_ite (fun _ => ?_) fun _ => ?_
    ·
      exact sp_b_M_next_289  (SPA.u8 (by decide) (SPA.u8 (by decide) hs))
    ·
      exact sp_b_M_next_289  (SPA.u8 (by decide) (SPA.u8 (by decide) hs))
theorem sp_b_M_next_239 {σ0 : zS} {N : Nat} {σ : zS} {s0 : Int32}  (hs : SPA σ0 σ) : zp (zb_M_next_239 N σ s0) (fun r => SPA σ0 r) := by
  unfold zb_M_next_239
  exact zp_some (SPA.u8 (by decide) hs)
theorem sp_b_M_next_234 {σ0 : zS} {N : Nat} {σ : zS}  (hs : SPA σ0 σ) : zp (zb_M_next_234 N σ) (fun r => SPA σ0 r) := by
  unfold zb_M_next_234
  exact sp_b_M_next_239  hs
theorem sp_b_M_next_161 {σ0 : zS} {N : Nat} {σ : zS} {s0 : Int32}  (hs : SPA σ0 σ) : zp (zb_M_next_161 N σ s0) (fun r => SPA σ0 r) := by
  unfold zb_M_next_161
  refine zp_ite (fun _ => ?_) fun _ => ?_
  ·
    exact zp_some (SPA.u8 (by decide) hs)
  ·
    refine zp_bind fun r35 _ => ?_
    refine zp_ite (fun _ => ?_) fun _ => ?_
    ·
      exact zp_some (SPA.u8 (by decide) hs)
    ·
      refine zp_bind fun r37 _ => ?_
      exact zp_some (SPA.u8 (by decide) (SPA.u8 (by decide) (SPA.u8 (by decide) hs)))
theorem sp_b_M_next_133 {σ0 : zS} {k101 : zS → Int32 → Option (zS)} {N : Nat} {σ : zS} {v1 : Int32} (hk101 : ∀ (y0 : zS) (y1 : Int32), SPA σ0 y0 → zp (k101 y0 y1) (fun r => SPA σ0 r)) (hs : SPA σ0 σ) : zp (zb_M_next_133 k101 N σ v1) (fun r => SPA σ0 r) := by
  unfold zb_M_next_133
  exact hk101 _ _ (SPA.u8 (by decide) hs)
theorem sp_b_M_next_101 {σ0 : zS} {N : Nat}  : ∀ (n : Nat) (σ : zS) (v1 : Int32), SPA σ0 σ → zp (zb_M_next_101 N n σ v1) (fun r => SPA σ0 r) := by
  intro n
  induction n with
  | zero => intro _ _ _; exact zp_none
  | succ n ih =>
    intro σ v1 hs
    rw [zb_M_next_101]
    refine zp_bind fun r27 _ => ?_
    refine zp_bind fun r28 _ => ?_
    refine zp_ite (fun _ => ?_) fun _ => ?_
    ·
      exact sp_b_M_next_133 (ih) hs
    ·
      refine zp_bind fun r30 _ => ?_
      refine zp_bind fun r31 _ => ?_
      refine zp_ite (fun _ => ?_) fun _ => ?_
      ·
        refine zp_ite (fun _ => ?_) fun _ => ?_
        ·
          exact sp_b_M_next_161  hs
        ·
          exact sp_b_M_next_161  hs
      ·
        exact sp_b_M_next_133 (ih) hs
theorem sp_b_M_next_44 {σ0 : zS} {N : Nat} {σ : zS} {v1 : Int32}  (hs : SPA σ0 σ) : zp (zb_M_next_44 N σ v1) (fun r => SPA σ0 r) := by
  unfold zb_M_next_44
  refine zp_bind fun r2 _ => ?_
  refine zp_bind fun r3 _ => ?_
  refine zp_ite (fun _ => ?_) fun _ => ?_
  ·
    refine zp_bind fun r5 _ => ?_
    refine zp_ite (fun _ => ?_) fun _ => ?_
    ·
      refine zp_bind fun r7 _ => ?_
      refine zp_ite (fun _ => ?_) fun _ => ?_
      ·
        refine zp_ite (fun _ => ?_) fun _ => ?_
        ·
          exact sp_b_M_next_257  (SPA.u8 (by decide) (SPA.u8 (by decide) (SPA.u8 (by decide) hs)))
        ·
          refine zp_ite (fun _ => ?_) fun _ => ?_
          ·
            exact sp_b_M_next_295  (SPA.u8 (by decide) (SPA.u8 (by decide) (SPA.u8 (by decide) hs)))
          ·
            exact sp_b_M_next_257  (SPA.u8 (by decide) (SPA.u8 (by decide) (SPA.u8 (by decide) hs)))
      ·
        refine zp_ite (fun _ => ?_) fun _ => ?_
        ·
          exact sp_b_M_next_234  (SPA.u8 (by decide) (SPA.u8 (by decide) (SPA.u8 (by decide) (SPA.u8 (by decide) hs))))
        ·
          refine zp_bind fun r23 _ => ?_
          refine zp_ite (fun _ => ?_) fun _ => ?_
          ·
            exact sp_b_M_next_234  (SPA.u8 (by decide) (SPA.u8 (by decide) (SPA.u8 (by decide) (SPA.u8 (by decide) hs))))
          ·
            refine zp_bind fun r25 _ => ?_
            refine zp_ite (fun _ => ?_) fun _ => ?_
            ·
              exact sp_b_M_next_239  (SPA.u8 (by decide) (SPA.u8 (by decide) (SPA.u8 (by decide) (SPA.u8 (by decide) hs))))
            ·
              exact sp_b_M_next_234  (SPA.u8 (by decide) (SPA.u8 (by decide) (SPA.u8 (by decide) (SPA.u8 (by decide) hs))))
    ·
      exact sp_b_M_next_101  _ _ _ (SPA.u8 (by decide) (SPA.u8 (by decide) (SPA.u8 (by decide) hs)))
  ·
    exact zp_some (SPA.u8 (by decide) (SPA.u8 (by decide) (SPA.u8 (by decide) (SPA.u8 (by decide) (SPA.u8 (by decide) hs)))))
theorem sp_b_M_next_38 {σ0 : zS} {k10 : zS → Int32 → Option (zS)} {N : Nat} {σ : zS} {v1 : Int32} (hk10 : ∀ (y0 : zS) (y1 : Int32), SPA σ0 y0 → zp (k10 y0 y1) (fun r => SPA σ0 r)) (hs : SPA σ0 σ) : zp (zb_M_next_38 k10 N σ v1) (fun r => SPA σ0 r) := by
  unfold zb_M_next_38
  exact hk10 _ _ hs
theorem sp_b_M_next_10 {σ0 : zS} {N : Nat}  : ∀ (n : Nat) (σ : zS) (v1 : Int32), SPA σ0 σ → zp (zb_M_next_10 N n σ v1) (fun r => SPA σ0 r) := by
  intro n
  induction n with
  | zero => intro _ _ _; exact zp_none
  | succ n ih =>
    intro σ v1 hs
    rw [zb_M_next_10]
    refine zp_ite (fun _ => ?_) fun _ => ?_
    ·
      exact sp_b_M_next_44  hs
    ·
      refine zp_bind fun r38 _ => ?_
      refine zp_ite (fun _ => ?_) fun _ => ?_
      ·
        exact sp_b_M_next_38 (ih) hs
      ·
        refine zp_bind fun r40 _ => ?_
        refine zp_ite (fun _ => ?_) fun _ => ?_
        ·
          exact sp_b_M_next_44  hs
        ·
          exact sp_b_M_next_38 (ih) hs
theorem sp_f_M_next {σ0 : zS} {N : Nat} {σ : zS}  (hs : SPA σ0 σ) : zp (zf_M_next N σ) (fun r => SPA σ0 r) := by
  unfold zf_M_next
  exact sp_b_M_next_10  _ _ _ hs
theorem sp_b_M_findLaters_245 {σ0 : zS} {k180 : zS → Int32 → Int32 → Int32 → Int32 → Option (zS)} {N : Nat} {σ : zS} {v1 : Int32} {v2 : Int32} {v3 : Int32} {v4 : Int32} (hk180 : ∀ (y0 : zS) (y1 : Int32) (y2 : Int32) (y3 : Int32) (y4 : Int32), SPA σ0 y0 → zp (k180 y0 y1 y2 y3 y4) (fun r => SPA σ0 r)) (hs : SPA σ0 σ) : zp (zb_M_findLaters_245 k180 N σ v1 v2 v3 v4) (fun r => SPA σ0 r) := by
  unfold zb_M_findLaters_245
  exact hk180 _ _ _ _ _ hs
theorem sp_b_M_findLaters_224 {σ0 : zS} {k180 : zS → Int32 → Int32 → Int32 → Int32 → Option (zS)} {N : Nat} {σ : zS} {v1 : Int32} {v2 : Int32} {v3 : Int32} {v4 : Int32} {v5 : Int32} (hk180 : ∀ (y0 : zS) (y1 : Int32) (y2 : Int32) (y3 : Int32) (y4 : Int32), SPA σ0 y0 → zp (k180 y0 y1 y2 y3 y4) (fun r => SPA σ0 r)) (hs : SPA σ0 σ) : zp (zb_M_findLaters_224 k180 N σ v1 v2 v3 v4 v5) (fun r => SPA σ0 r) := by
  unfold zb_M_findLaters_224
  refine zp_chk fun ck => ?_
  refine zp_ite (fun _ => ?_) fun _ => ?_
  ·
    exact sp_b_M_findLaters_245 (hk180) hs
  ·
    refine zp_chk fun ck => ?_
    exact sp_b_M_findLaters_245 (hk180) (SPA.up (by decide) hs)
theorem sp_b_M_findLaters_180 {σ0 : zS} {k169 : zS → Int32 → Int32 → Int32 → Option (zS)} {N : Nat} (hk169 : ∀ (y0 : zS) (y1 : Int32) (y2 : Int32) (y3 : Int32), SPA σ0 y0 → zp (k169 y0 y1 y2 y3) (fun r => SPA σ0 r)) : ∀ (n : Nat) (σ : zS) (v1 : Int32) (v2 : Int32) (v3 : Int32) (v4 : Int32), SPA σ0 σ → zp (zb_M_findLaters_180 k169 N n σ v1 v2 v3 v4) (fun r => SPA σ0 r) := by
  intro n
  induction n with
  | zero => intro _ _ _ _ _ _; exact zp_none
  | succ n ih =>
    intro σ v1 v2 v3 v4 hs
    rw [zb_M_findLaters_180]
    refine zp_chk fun ck => ?_
    refine zp_ite (fun _ => ?_) fun _ => ?_
    ·
      exact hk169 _ _ _ _ hs
    ·
      refine zp_chk fun ck => ?_
      refine zp_ite (fun _ => ?_) fun _ => ?_
      ·
        exact sp_b_M_findLaters_224 (ih) hs
      ·
        refine zp_chk fun ck => ?_
        refine zp_ite (fun _ => ?_) fun _ => ?_
        ·
          exact sp_b_M_findLaters_245 (ih) hs
        ·
          exact sp_b_M_findLaters_224 (ih) hs
theorem sp_b_M_findLaters_169 {σ0 : zS} {k2 : zS → Int32 → Option (zS)} {N : Nat} (hk2 : ∀ (y0 : zS) (y1 : Int32), SPA σ0 y0 → zp (k2 y0 y1) (fun r => SPA σ0 r)) : ∀ (n : Nat) (σ : zS) (v1 : Int32) (v2 : Int32) (v3 : Int32), SPA σ0 σ → zp (zb_M_findLaters_169 k2 N n σ v1 v2 v3) (fun r => SPA σ0 r) := by
  intro n
  induction n with
  | zero => intro _ _ _ _ _; exact zp_none
  | succ n ih =>
    intro σ v1 v2 v3 hs
    rw [zb_M_findLaters_169]
    refine zp_ite (fun _ => ?_) fun _ => ?_
    ·
      exact hk2 _ _ hs
    ·
      exact sp_b_M_findLaters_180 (ih) _ _ _ _ _ _ hs
theorem sp_b_M_findLaters_167 {σ0 : zS} {k2 : zS → Int32 → Option (zS)} {N : Nat} {σ : zS} {v1 : Int32} {v2 : Int32} (hk2 : ∀ (y0 : zS) (y1 : Int32), SPA σ0 y0 → zp (k2 y0 y1) (fun r => SPA σ0 r)) (hs : SPA σ0 σ) : zp (zb_M_findLaters_167 k2 N σ v1 v2) (fun r => SPA σ0 r) := by
  unfold zb_M_findLaters_167
  exact sp_b_M_findLaters_169 (hk2) _ _ _ _ _ hs
theorem sp_b_M_findLaters_135 {σ0 : zS} {k21 : zS → Int32 → Int32 → Int32 → Option (zS)} {N : Nat} {σ : zS} {v1 : Int32} {v3 : Int32} {s0 : Int32} (hk21 : ∀ (y0 : zS) (y1 : Int32) (y2 : Int32) (y3 : Int32), SPA σ0 y0 → zp (k21 y0 y1 y2 y3) (fun r => SPA σ0 r)) (hs : SPA σ0 σ) : zp (zb_M_findLaters_135 k21 N σ v1 v3 s0) (fun r => SPA σ0 r) := by
  unfold zb_M_findLaters_135
  exact hk21 _ _ _ _ hs
theorem sp_b_M_findLaters_125 {σ0 : zS} {k21 : zS → Int32 → Int32 → Int32 → Option (zS)} {N : Nat} {σ : zS} {v1 : Int32} {v2 : Int32} {v3 : Int32} {v4 : Int32} (hk21 : ∀ (y0 : zS) (y1 : Int32) (y2 : Int32) (y3 : Int32), SPA σ0 y0 → zp (k21 y0 y1 y2 y3) (fun r => SPA σ0 r)) (hs : SPA σ0 σ) : zp (zb_M_findLaters_125 k21 N σ v1 v2 v3 v4) (fun r => SPA σ0 r) := by
  unfold zb_M_findLaters_125
  refine zp_ite (fun _ => ?_) fun _ => ?_
  ·
    exact sp_b_M_findLaters_135 (hk21) hs
  ·
    exact sp_b_M_findLaters_135 (hk21) hs
theorem sp_b_M_findLaters_117 {σ0 : zS} {k60 : zS → Int32 → Int32 → Int32 → Int32 → Int32 → Option (zS)} {N : Nat} {σ : zS} {v1 : Int32} {v2 : Int32} {v3 : Int32} {v5 : Int32} {s0 : Int32} (hk60 : ∀ (y0 : zS) (y1 : Int32) (y2 : Int32) (y3 : Int32) (y4 : Int32) (y5 : Int32), SPA σ0 y0 → zp (k60 y0 y1 y2 y3 y4 y5) (fun r => SPA σ0 r)) (hs : SPA σ0 σ) : zp (zb_M_findLaters_117 k60 N σ v1 v2 v3 v5 s0) (fun r => SPA σ0 r) := by
  unfold zb_M_findLaters_117
  exact hk60 _ _ _ _ _ _ hs
theorem sp_b_M_findLaters_60 {σ0 : zS} {k21 : zS → Int32 → Int32 → Int32 → Option (zS)} {N : Nat} (hk21 : ∀ (y0 : zS) (y1 : Int32) (y2 : Int32) (y3 : Int32), SPA σ0 y0 → zp (k21 y0 y1 y2 y3) (fun r => SPA σ0 r)) : ∀ (n : Nat) (σ : zS) (v1 : Int32) (v2 : Int32) (v3 : Int32) (v4 : Int32) (v5 : Int32), SPA σ0 σ → zp (zb_M_findLaters_60 k21 N n σ v1 v2 v3 v4 v5) (fun r => SPA σ0 r) := by
  intro n
  induction n with
  | zero => intro _ _ _ _ _ _ _; exact zp_none
  | succ n ih =>
    intro σ v1 v2 v3 v4 v5 hs
    rw [zb_M_findLaters_60]
    refine zp_chk fun ck => ?_
    refine zp_ite (fun _ => ?_) fun _ => ?_
    ·
      exact sp_b_M_findLaters_125 (hk21) hs
    ·
      refine zp_ite (fun _ => ?_) fun _ => ?_
      ·
        exact sp_b_M_findLaters_125 (hk21) hs
      ·
        refine zp_chk fun ck => ?_
        refine zp_chk fun ck => ?_
        refine zp_ite (fun _ => ?_) fun _ => ?_
        ·
          exact sp_b_M_findLaters_117 (ih) hs
        ·
          exact sp_b_M_findLaters_117 (ih) hs
theorem sp_b_M_findLaters_55 {σ0 : zS} {k21 : zS → Int32 → Int32 → Int32 → Option (zS)} {N : Nat} {σ : zS} {v1 : Int32} {v2 : Int32} {v3 : Int32} {s0 : Int32} (hk21 : ∀ (y0 : zS) (y1 : Int32) (y2 : Int32) (y3 : Int32), SPA σ0 y0 → zp (k21 y0 y1 y2 y3) (fun r => SPA σ0 r)) (hs : SPA σ0 σ) : zp (zb_M_findLaters_55 k21 N σ v1 v2 v3 s0) (fun r => SPA σ0 r) := by
  unfold zb_M_findLaters_55
  exact sp_b_M_findLaters_60 (hk21) _ _ _ _ _ _ _ hs
theorem sp_b_M_findLaters_21 {σ0 : zS} {k2 : zS → Int32 → Option (zS)} {N : Nat} (hk2 : ∀ (y0 : zS) (y1 : Int32), SPA σ0 y0 → zp (k2 y0 y1) (fun r => SPA σ0 r)) : ∀ (n : Nat) (σ : zS) (v1 : Int32) (v2 : Int32) (v3 : Int32), SPA σ0 σ → zp (zb_M_findLaters_21 k2 N n σ v1 v2 v3) (fun r => SPA σ0 r) := by
  intro n
  induction n with
  | zero => intro _ _ _ _ _; exact zp_none
  | succ n ih =>
    intro σ v1 v2 v3 hs
    rw [zb_M_findLaters_21]
    refine zp_ite (fun _ => ?_) fun _ => ?_
    ·
      refine zp_ite (fun _ => ?_) fun _ => ?_
      ·
        exact sp_b_M_findLaters_167 (hk2) hs
      ·
        refine zp_chk fun ck => ?_
        exact sp_b_M_findLaters_167 (hk2) (SPA.u8 (by decide) (SPA.u8 (by decide) (SPA.u8 (by decide) hs)))
    ·
      refine zp_chk fun ck => ?_
      refine zp_chk fun ck => ?_
      refine zp_ite (fun _ => ?_) fun _ => ?_
      ·
        exact sp_b_M_findLaters_55 (ih) hs
      ·
        exact sp_b_M_findLaters_55 (ih) hs
theorem sp_b_M_findLaters_2 {σ0 : zS} {N : Nat}  : ∀ (n : Nat) (σ : zS) (v1 : Int32), SPA σ0 σ → zp (zb_M_findLaters_2 N n σ v1) (fun r => SPA σ0 r) := by
  intro n
  induction n with
  | zero => intro _ _ _; exact zp_none
  | succ n ih =>
    intro σ v1 hs
    rw [zb_M_findLaters_2]
    refine zp_ite (fun _ => ?_) fun _ => ?_
    ·
      exact zp_some hs
    ·
      refine zp_ite (fun _ => ?_) fun _ => ?_
      ·
        exact zp_some hs
      ·
        exact sp_b_M_findLaters_21 (ih) _ _ _ _ _ hs
theorem sp_f_M_findLaters {σ0 : zS} {N : Nat} {σ : zS}  (hs : SPA σ0 σ) : zp (zf_M_findLaters N σ) (fun r => SPA σ0 r) := by
  unfold zf_M_findLaters
  exact sp_b_M_findLaters_2  _ _ _ hs
theorem sp_f_M_fail {σ0 : zS} {σ : zS} {x1 : Int32}  (hs : SPA σ0 σ) : zp (zf_M_fail σ x1) (fun r => SPA σ0 r) := by
  unfold zf_M_fail
  refine zp_ite (fun _ => ?_) fun _ => ?_
  ·
    exact zp_some hs
  ·
    exact zp_some (SPA.u8 (by decide) (SPA.u8 (by decide) (SPA.u8 (by decide) hs)))
theorem sp_b_M_cannot_14 {σ0 : zS} {σ : zS} {s0 : Int32}  (hs : SPA σ0 σ) : zp (zb_M_cannot_14 σ s0) (fun r => SPA σ0 r) := by
  unfold zb_M_cannot_14
  refine zp_bind (zp_mono (sp_f_M_fail  hs) fun r2 hr2 => ?_)
  exact zp_some hr2
theorem sp_f_M_cannot {σ0 : zS} {σ : zS}  (hs : SPA σ0 σ) : zp (zf_M_cannot σ) (fun r => SPA σ0 r) := by
  unfold zf_M_cannot
  refine zp_ite (fun _ => ?_) fun _ => ?_
  ·
    exact sp_b_M_cannot_14  hs
  ·
    exact sp_b_M_cannot_14  hs
theorem sp_b_M_call_12 {σ0 : zS} {N : Nat}  : ∀ (n : Nat) (σ : zS) (v1 : Int32) (v2 : Int32), SPA σ0 σ → zp (zb_M_call_12 N n σ v1 v2) (fun r => SPA σ0 r) := by
  intro n
  induction n with
  | zero => intro _ _ _ _; exact zp_none
  | succ n ih =>
    intro σ v1 v2 hs
    rw [zb_M_call_12]
    refine zp_ite (fun _ => ?_) fun _ => ?_
    ·
      exact zp_some hs
    ·
      refine zp_chk fun ck => ?_
      refine zp_chk fun ck => ?_
      exact ih _ _ _ (SPA.up (by decide) hs)
theorem sp_f_M_call {σ0 : zS} {N : Nat} {σ : zS} {x1 : Int32}  (hs : SPA σ0 σ) : zp (zf_M_call N σ x1) (fun r => SPA σ0 r) := by
  unfold zf_M_call
  refine zp_chk fun ck => ?_
  exact sp_b_M_call_12  _ _ _ _ (SPA.up (by decide) hs)
theorem sp_f_M_openBlock {σ0 : zS} {N : Nat} {σ : zS} {x1 : Int32} {x2 : Int32}  (hs : SPA σ0 σ) : zp (zf_M_openBlock N σ x1 x2) (fun r => SPA σ0 r) := by
  unfold zf_M_openBlock
  refine zp_ite (fun _ => ?_) fun _ => ?_
  ·
    refine zp_bind fun r2 _ => ?_
    refine zp_ite (fun _ => ?_) fun _ => ?_
    ·
      refine zp_ite (fun _ => ?_) fun _ => ?_
      ·
        refine zp_bind (zp_mono (sp_f_M_next  hs) fun r5 hr5 => ?_)
        refine zp_chk fun ck => ?_
        refine zp_chk fun ck => ?_
        refine zp_chk fun ck => ?_
        exact zp_some (SPA.u8 (by decide) (SPA.up (by decide) (SPA.up (by decide) (SPA.up (by decide) hr5))))
      ·
        refine zp_bind (zp_mono (sp_f_M_fail  hs) fun r9 hr9 => ?_)
        exact zp_some hr9
    ·
      refine zp_bind (zp_mono (sp_f_M_cannot  hs) fun r10 hr10 => ?_)
      exact zp_some hr10
  ·
    exact zp_some hs
theorem sp_b_M_lead_62 {σ0 : zS} {k8 : zS → Int32 → Int32 → Option (zS)} {N : Nat} {σ : zS} {v1 : Int32} {v2 : Int32} (hk8 : ∀ (y0 : zS) (y1 : Int32) (y2 : Int32), SPA σ0 y0 → zp (k8 y0 y1 y2) (fun r => SPA σ0 r)) (hs : SPA σ0 σ) : zp (zb_M_lead_62 k8 N σ v1 v2) (fun r => SPA σ0 r) := by
  unfold zb_M_lead_62
  exact hk8 _ _ _ hs
theorem sp_b_M_lead_8 {σ0 : zS} {N : Nat}  : ∀ (n : Nat) (σ : zS) (v1 : Int32) (v2 : Int32), SPA σ0 σ → zp (zb_M_lead_8 N n σ v1 v2) (fun r => SPA σ0 r) := by
  intro n
  induction n with
  | zero => intro _ _ _ _; exact zp_none
  | succ n ih =>
    intro σ v1 v2 hs
    rw [zb_M_lead_8]
    refine zp_ite (fun _ => ?_) fun _ => ?_
    ·
      exact zp_some hs
    ·
      refine zp_chk fun ck => ?_
      refine zp_ite (fun _ => ?_) fun _ => ?_
      ·
        refine zp_chk fun ck => ?_
        exact sp_b_M_lead_62 (ih) (SPA.up (by decide) (SPA.u8 (by decide) hs))
      ·
        refine zp_chk fun ck => ?_
        exact sp_b_M_lead_62 (ih) (SPA.up (by decide) (SPA.u8 (by decide) hs))
theorem sp_f_M_lead {σ0 : zS} {N : Nat} {σ : zS} {x1 : Int32}  (hs : SPA σ0 σ) : zp (zf_M_lead N σ x1) (fun r => SPA σ0 r) := by
  unfold zf_M_lead
  exact sp_b_M_lead_8  _ _ _ _ hs
theorem sp_f_M_wayOf {σ0 : zS} {σ : zS} {x1 : Int32} {x2 : Int32}  (hs : SPA σ0 σ) : zp (zf_M_wayOf σ x1 x2) (fun r => SPA σ0 r.2) := by
  unfold zf_M_wayOf
  refine zp_chk fun ck => ?_
  exact zp_some (SPA.up (by decide) hs)
theorem sp_f_M_addStep {σ0 : zS} {N : Nat} {σ : zS} {x1 : Int32} {x2 : Int32} (hs : SPA σ0 σ) : zp (zf_M_addStep N σ x1 x2) (fun r => SPA σ0 r.2) := by
  unfold zf_M_addStep
  refine zp_chk fun c39 => zp_ite (fun n24 => zp_chk fun _ => zp_chk fun _ => zp_chk fun _ => zp_chk fun _ => zp_chk fun _ => zp_chk fun _ => ?_) fun _ => zp_bind (zp_mono (sp_f_M_fail hs) fun r h => zp_some h)
  obtain ⟨T, T4, eT⟩ := z_ex (m := 4) (by omega) c39.1 c39.2
  rw [eT, zo_n (m := T) (by omega)] at n24 ⊢
  have b := hs.2.2.2 T T4
  obtain ⟨n, n25, en⟩ := z_ex (m := 25) (by omega) b.1 (Int32.lt_of_le_of_lt b.2 (by decide))
  rw [en] at n24
  have n24 : n < 24 := by
    by_cases c : n = 24
    · rw [c] at n24; exact absurd rfl n24
    · omega
  rw [en, (z24 T4 (by omega)).2.1]
  refine zp_bind (zp_mono (sg_f_M_lead (σ0 := zx_up (zx_up (zx_up (zx_up (zx_up (zx_up σ 92 (24 * T + n) x1) 93 (24 * T + n) x2) 94 (24 * T + n) (-1)) 95 (24 * T + n) (-1)) 96 (24 * T + n) (σ 82 40)) 97 (24 * T + n) (σ 82 41)) SPF.rfl') fun r9 h9 => ?_)
  have e90 : r9 90 = σ 90 := by rw [h9.1.1]; iterate 6 rw [zu_other (by decide)]
  have e91 : r9 91 = σ 91 := by rw [h9.1.2.1]; iterate 6 rw [zu_other (by decide)]
  have e97 : r9 97 = zu (σ 97) (24 * T + n) (σ 82 41) := by
    rw [h9.1.2.2, zx_up_same]
    iterate 5 rw [zu_other (by decide)]
  have e17 : r9 82 17 = σ 82 17 := by rw [h9.2.1]; iterate 6 rw [zu_other (by decide)]
  have e25 : r9 82 25 = σ 82 25 := by rw [h9.2.2.1]; iterate 6 rw [zu_other (by decide)]
  have e39 : r9 82 39 = σ 82 39 := by rw [h9.2.2.2.1]; iterate 6 rw [zu_other (by decide)]
  have e41 : r9 82 41 = σ 82 41 := by rw [h9.2.2.2.2]; iterate 6 rw [zu_other (by decide)]
  rw [e39, eT, zo_n (m := T) (by omega), e90, en, zo_1 (m := n) (by omega)]
  have A : SPA σ0 (zx_up r9 90 T (Int32.ofNat (n + 1))) := hs.add T4 n24 eT en (by rw [zu_other (by decide)]; exact e97) (by rw [zx_up_same, e90]) (by rw [zu_other (by decide)]; exact e91) ⟨by rw [zu_other (by decide)]; exact e17, by rw [zu_other (by decide)]; exact e25, by rw [zu_other (by decide)]; exact e39, by rw [zu_other (by decide)]; exact e41⟩
  exact zp_chk fun _ => zp_chk fun _ => zp_ite (fun _ => zp_some A) fun _ => zp_bind (zp_mono (sp_f_M_wayOf A) fun r13 h13 => zp_some (SPA.u8 (by decide) h13))
theorem sp_f_M_nextIfWell {σ0 : zS} {N : Nat} {σ : zS}  (hs : SPA σ0 σ) : zp (zf_M_nextIfWell N σ) (fun r => SPA σ0 r) := by
  unfold zf_M_nextIfWell
  refine zp_ite (fun _ => ?_) fun _ => ?_
  ·
    exact zp_some hs
  ·
    refine zp_bind (zp_mono (sp_f_M_next  hs) fun r2 hr2 => ?_)
    exact zp_some hr2
theorem sp_f_M_take {σ0 : zS} {N : Nat} {σ : zS} {x1 : Int32}  (hs : SPA σ0 σ) : zp (zf_M_take N σ x1) (fun r => SPA σ0 r) := by
  unfold zf_M_take
  refine zp_ite (fun _ => ?_) fun _ => ?_
  ·
    refine zp_bind fun r2 _ => ?_
    refine zp_ite (fun _ => ?_) fun _ => ?_
    ·
      refine zp_bind (zp_mono (sp_f_M_cannot  hs) fun r4 hr4 => ?_)
      exact zp_some hr4
    ·
      refine zp_bind (zp_mono (sp_f_M_next  hs) fun r5 hr5 => ?_)
      exact zp_some hr5
  ·
    exact zp_some hs
theorem sp_f_M_local {σ0 : zS} {N : Nat} {σ : zS} {x1 : Int32}  (hs : SPA σ0 σ) : zp (zf_M_local N σ x1) (fun r => SPA σ0 r.2) := by
  unfold zf_M_local
  refine zp_bind fun r1 _ => ?_
  refine zp_ite (fun _ => ?_) fun _ => ?_
  ·
    refine zp_ite (fun _ => ?_) fun _ => ?_
    ·
      refine zp_ite (fun _ => ?_) fun _ => ?_
      ·
        refine zp_bind (zp_mono (sp_f_M_call  hs) fun r5 hr5 => ?_)
        exact zp_some (SPA.u8 (by decide) hr5)
      ·
        refine zp_bind (zp_mono (sp_f_M_fail  hs) fun r6 hr6 => ?_)
        exact zp_some hr6
    ·
      refine zp_bind (zp_mono (sp_f_M_fail  hs) fun r7 hr7 => ?_)
      exact zp_some hr7
  ·
    exact zp_some hs
theorem sp_b_M_value_53 {σ0 : zS} {N : Nat} {σ : zS} {v2 : Int32}  (hs : SPA σ0 σ) : zp (zb_M_value_53 N σ v2) (fun r => SPA σ0 r.2) := by
  unfold zb_M_value_53
  refine zp_ite (fun _ => ?_) fun _ => ?_
  ·
    exact zp_some hs
  ·
    refine zp_bind (zp_mono (sp_f_M_next  hs) fun r5 hr5 => ?_)
    exact zp_some hr5
theorem sp_b_M_value_41 {σ0 : zS} {N : Nat} {σ : zS} {v2 : Int32}  (hs : SPA σ0 σ) : zp (zb_M_value_41 N σ v2) (fun r => SPA σ0 r.2) := by
  unfold zb_M_value_41
  refine zp_ite (fun _ => ?_) fun _ => ?_
  ·
    exact sp_b_M_value_53  hs
  ·
    refine zp_bind (zp_mono (sp_f_M_cannot  hs) fun r6 hr6 => ?_)
    exact sp_b_M_value_53  hr6
theorem sp_f_M_value {σ0 : zS} {N : Nat} {σ : zS} {x1 : Int32}  (hs : SPA σ0 σ) : zp (zf_M_value N σ x1) (fun r => SPA σ0 r.2) := by
  unfold zf_M_value
  refine zp_ite (fun _ => ?_) fun _ => ?_
  ·
    refine zp_ite (fun _ => ?_) fun _ => ?_
    ·
      exact sp_b_M_value_41  hs
    ·
      refine zp_bind fun r7 _ => ?_
      refine zp_ite (fun _ => ?_) fun _ => ?_
      ·
        exact sp_b_M_value_41  hs
      ·
        refine zp_bind (zp_mono (sp_f_M_local  hs) fun r9 hr9 => ?_)
        exact sp_b_M_value_53  hr9
  ·
    exact zp_some hs
theorem sp_b_M_test_98 {σ0 : zS} {N : Nat} {σ : zS} {v2 : Int32}  (hs : SPA σ0 σ) : zp (zb_M_test_98 N σ v2) (fun r => SPA σ0 r) := by
  unfold zb_M_test_98
  refine zp_bind (zp_mono (sp_f_M_next  hs) fun r9 hr9 => ?_)
  refine zp_bind (zp_mono (sp_f_M_value  hr9) fun r10 hr10 => ?_)
  refine zp_chk fun ck => ?_
  exact zp_some (SPA.up (by decide) hr10)
theorem sp_b_M_test_93 {σ0 : zS} {N : Nat} {σ : zS}  (hs : SPA σ0 σ) : zp (zb_M_test_93 N σ) (fun r => SPA σ0 r) := by
  unfold zb_M_test_93
  refine zp_bind (zp_mono (sp_f_M_cannot  hs) fun r7 hr7 => ?_)
  exact zp_some hr7
theorem sp_f_M_test {σ0 : zS} {N : Nat} {σ : zS} {x1 : Int32}  (hs : SPA σ0 σ) : zp (zf_M_test N σ x1) (fun r => SPA σ0 r) := by
  unfold zf_M_test
  refine zp_ite (fun _ => ?_) fun _ => ?_
  ·
    refine zp_bind (zp_mono (sp_f_M_value  hs) fun r2 hr2 => ?_)
    refine zp_chk fun ck => ?_
    refine zp_ite (fun _ => ?_) fun _ => ?_
    ·
      refine zp_chk fun ck => ?_
      refine zp_ite (fun _ => ?_) fun _ => ?_
      ·
        exact sp_b_M_test_93  (SPA.up (by decide) (SPA.up (by decide) hr2))
      ·
        refine zp_ite (fun _ => ?_) fun _ => ?_
        ·
          exact sp_b_M_test_98  (SPA.up (by decide) (SPA.up (by decide) hr2))
        ·
          refine zp_ite (fun _ => ?_) fun _ => ?_
          ·
            exact sp_b_M_test_98  (SPA.up (by decide) (SPA.up (by decide) hr2))
          ·
            refine zp_ite (fun _ => ?_) fun _ => ?_
            ·
              exact sp_b_M_test_98  (SPA.up (by decide) (SPA.up (by decide) hr2))
            ·
              refine zp_ite (fun _ => ?_) fun _ => ?_
              ·
                exact sp_b_M_test_98  (SPA.up (by decide) (SPA.up (by decide) hr2))
              ·
                exact sp_b_M_test_93  (SPA.up (by decide) (SPA.up (by decide) hr2))
    ·
      exact zp_some (SPA.up (by decide) hr2)
  ·
    exact zp_some hs
theorem sp_b_M_threadNamed_116 {σ0 : zS} {N : Nat} {σ : zS} {v1 : Int32}  (hs : SPA σ0 σ) : zp (zb_M_threadNamed_116 N σ v1) (fun r => SPA σ0 r.2) := by
  unfold zb_M_threadNamed_116
  refine zp_bind (zp_mono (sp_f_M_next  hs) fun r7 hr7 => ?_)
  exact zp_some hr7
theorem sp_b_M_threadNamed_112 {σ0 : zS} {N : Nat} {σ : zS} {v1 : Int32}  (hs : SPA σ0 σ) : zp (zb_M_threadNamed_112 N σ v1) (fun r => SPA σ0 r.2) := by
  unfold zb_M_threadNamed_112
  exact sp_b_M_threadNamed_116  hs
theorem sp_b_M_threadNamed_52 {σ0 : zS} {N : Nat} {σ : zS} {v1 : Int32}  (hs : SPA σ0 σ) : zp (zb_M_threadNamed_52 N σ v1) (fun r => SPA σ0 r.2) := by
  unfold zb_M_threadNamed_52
  refine zp_ite (fun _ => ?_) fun _ => ?_
  ·
    exact sp_b_M_threadNamed_116  hs
  ·
    refine zp_bind fun r8 _ => ?_
    refine zp_ite (fun _ => ?_) fun _ => ?_
    ·
      exact sp_b_M_threadNamed_112  hs
    ·
      refine zp_bind (zp_mono (sp_f_M_call  hs) fun r10 hr10 => ?_)
      refine zp_chk fun ck => ?_
      exact sp_b_M_threadNamed_112  (SPA.u8 (by decide) (SPA.up (by decide) hr10))
theorem sp_b_M_threadNamed_46 {σ0 : zS} {N : Nat} {σ : zS}  (hs : SPA σ0 σ) : zp (zb_M_threadNamed_46 N σ) (fun r => SPA σ0 r.2) := by
  unfold zb_M_threadNamed_46
  refine zp_bind (zp_mono (sp_f_M_cannot  hs) fun r4 hr4 => ?_)
  exact zp_some hr4
theorem sp_b_M_threadNamed_25 {σ0 : zS} {N : Nat} {σ : zS} {s0 : Int32}  (hs : SPA σ0 σ) : zp (zb_M_threadNamed_25 N σ s0) (fun r => SPA σ0 r.2) := by
  unfold zb_M_threadNamed_25
  refine zp_ite (fun _ => ?_) fun _ => ?_
  ·
    exact sp_b_M_threadNamed_46  hs
  ·
    refine zp_ite (fun _ => ?_) fun _ => ?_
    ·
      exact sp_b_M_threadNamed_52  hs
    ·
      refine zp_bind fun r12 _ => ?_
      refine zp_ite (fun _ => ?_) fun _ => ?_
      ·
        exact sp_b_M_threadNamed_52  hs
      ·
        exact sp_b_M_threadNamed_46  hs
theorem sp_f_M_threadNamed {σ0 : zS} {N : Nat} {σ : zS}  (hs : SPA σ0 σ) : zp (zf_M_threadNamed N σ) (fun r => SPA σ0 r.2) := by
  unfold zf_M_threadNamed
  refine zp_ite (fun _ => ?_) fun _ => ?_
  ·
    refine zp_ite (fun _ => ?_) fun _ => ?_
    ·
      exact sp_b_M_threadNamed_25  hs
    ·
      refine zp_bind fun r14 _ => ?_
      exact sp_b_M_threadNamed_25  hs
  ·
    exact zp_some hs
theorem sp_b_M_lockNamed_63 {σ0 : zS} {N : Nat} {σ : zS} {v1 : Int32}  (hs : SPA σ0 σ) : zp (zb_M_lockNamed_63 N σ v1) (fun r => SPA σ0 r.2) := by
  unfold zb_M_lockNamed_63
  refine zp_ite (fun _ => ?_) fun _ => ?_
  ·
    exact zp_some hs
  ·
    refine zp_bind (zp_mono (sp_f_M_next  hs) fun r6 hr6 => ?_)
    exact zp_some hr6
theorem sp_b_M_lockNamed_53 {σ0 : zS} {N : Nat} {σ : zS} {v1 : Int32}  (hs : SPA σ0 σ) : zp (zb_M_lockNamed_53 N σ v1) (fun r => SPA σ0 r.2) := by
  unfold zb_M_lockNamed_53
  refine zp_ite (fun _ => ?_) fun _ => ?_
  ·
    exact sp_b_M_lockNamed_63  hs
  ·
    refine zp_bind (zp_mono (sp_f_M_fail  hs) fun r9 hr9 => ?_)
    exact sp_b_M_lockNamed_63  hr9
theorem sp_b_M_lockNamed_46 {σ0 : zS} {N : Nat} {σ : zS} {v1 : Int32}  (hs : SPA σ0 σ) : zp (zb_M_lockNamed_46 N σ v1) (fun r => SPA σ0 r.2) := by
  unfold zb_M_lockNamed_46
  refine zp_bind (zp_mono (sp_f_M_cannot  hs) fun r4 hr4 => ?_)
  exact sp_b_M_lockNamed_63  hr4
theorem sp_b_M_lockNamed_25 {σ0 : zS} {N : Nat} {σ : zS} {s0 : Int32}  (hs : SPA σ0 σ) : zp (zb_M_lockNamed_25 N σ s0) (fun r => SPA σ0 r.2) := by
  unfold zb_M_lockNamed_25
  refine zp_ite (fun _ => ?_) fun _ => ?_
  ·
    exact sp_b_M_lockNamed_46  hs
  ·
    refine zp_ite (fun _ => ?_) fun _ => ?_
    ·
      exact sp_b_M_lockNamed_53  hs
    ·
      refine zp_bind fun r10 _ => ?_
      refine zp_ite (fun _ => ?_) fun _ => ?_
      ·
        exact sp_b_M_lockNamed_53  hs
      ·
        exact sp_b_M_lockNamed_46  hs
theorem sp_f_M_lockNamed {σ0 : zS} {N : Nat} {σ : zS}  (hs : SPA σ0 σ) : zp (zf_M_lockNamed N σ) (fun r => SPA σ0 r.2) := by
  unfold zf_M_lockNamed
  refine zp_ite (fun _ => ?_) fun _ => ?_
  ·
    refine zp_ite (fun _ => ?_) fun _ => ?_
    ·
      exact sp_b_M_lockNamed_25  hs
    ·
      refine zp_bind fun r12 _ => ?_
      exact sp_b_M_lockNamed_25  hs
  ·
    exact zp_some hs
theorem sp_b_M_assign_230 {σ0 : zS} {N : Nat} {σ : zS}  (hs : SPA σ0 σ) : zp (zb_M_assign_230 N σ) (fun r => SPA σ0 r) := by
  unfold zb_M_assign_230
  refine zp_bind (zp_mono (sp_f_M_take  hs) fun r17 hr17 => ?_)
  exact zp_some hr17
theorem sp_b_M_assign_203 {σ0 : zS} {N : Nat} {σ : zS} {v4 : Int32}  (hs : SPA σ0 σ) : zp (zb_M_assign_203 N σ v4) (fun r => SPA σ0 r) := by
  unfold zb_M_assign_203
  refine zp_chk fun ck => ?_
  refine zp_bind (zp_mono (sp_f_M_next  (SPA.up (by decide) hs)) fun r22 hr22 => ?_)
  refine zp_bind (zp_mono (sp_f_M_value  hr22) fun r23 hr23 => ?_)
  refine zp_chk fun ck => ?_
  exact sp_b_M_assign_230  (SPA.up (by decide) hr23)
theorem sp_b_M_assign_161 {σ0 : zS} {N : Nat} {σ : zS} {v1 : Int32} {v4 : Int32}  (hs : SPA σ0 σ) : zp (zb_M_assign_161 N σ v1 v4) (fun r => SPA σ0 r) := by
  unfold zb_M_assign_161
  refine zp_bind (zp_mono (sp_f_M_value  hs) fun r14 hr14 => ?_)
  refine zp_chk fun ck => ?_
  refine zp_ite (fun _ => ?_) fun _ => ?_
  ·
    exact sp_b_M_assign_230  (SPA.up (by decide) hr14)
  ·
    refine zp_ite (fun _ => ?_) fun _ => ?_
    ·
      exact sp_b_M_assign_230  (SPA.up (by decide) hr14)
    ·
      refine zp_bind fun r19 _ => ?_
      refine zp_ite (fun _ => ?_) fun _ => ?_
      ·
        exact sp_b_M_assign_203  (SPA.up (by decide) hr14)
      ·
        refine zp_bind fun r25 _ => ?_
        refine zp_ite (fun _ => ?_) fun _ => ?_
        ·
          exact sp_b_M_assign_230  (SPA.up (by decide) hr14)
        ·
          exact sp_b_M_assign_203  (SPA.up (by decide) hr14)
theorem sp_b_M_assign_56 {σ0 : zS} {N : Nat} {σ : zS} {v1 : Int32} {v2 : Int32} {s0 : Int32}  (hs : SPA σ0 σ) : zp (zb_M_assign_56 N σ v1 v2 s0) (fun r => SPA σ0 r) := by
  unfold zb_M_assign_56
  refine zp_bind (zp_mono (sp_f_M_addStep  hs) fun r6 hr6 => ?_)
  refine zp_ite (fun _ => ?_) fun _ => ?_
  ·
    refine zp_bind (zp_mono (sp_f_M_next  hr6) fun r8 hr8 => ?_)
    refine zp_bind (zp_mono (sp_f_M_take  hr8) fun r9 hr9 => ?_)
    refine zp_ite (fun _ => ?_) fun _ => ?_
    ·
      refine zp_chk fun ck => ?_
      refine zp_chk fun ck => ?_
      refine zp_ite (fun _ => ?_) fun _ => ?_
      ·
        exact sp_b_M_assign_161  (SPA.up (by decide) (SPA.up (by decide) hr9))
      ·
        refine zp_ite (fun _ => ?_) fun _ => ?_
        ·
          exact sp_b_M_assign_161  (SPA.up (by decide) (SPA.up (by decide) hr9))
        ·
          refine zp_bind fun r28 _ => ?_
          refine zp_ite (fun _ => ?_) fun _ => ?_
          ·
            exact sp_b_M_assign_161  (SPA.up (by decide) (SPA.up (by decide) hr9))
          ·
            refine zp_chk fun ck => ?_
            refine zp_bind fun r31 _ => ?_
            refine zp_chk fun ck => ?_
            refine zp_bind (zp_mono (sp_f_M_next  (SPA.up (by decide) (SPA.up (by decide) (SPA.up (by decide) (SPA.up (by decide) hr9))))) fun r33 hr33 => ?_)
            exact sp_b_M_assign_230  hr33
    ·
      exact zp_some hr9
  ·
    exact zp_some hr6
theorem sp_b_M_assign_36 {σ0 : zS} {N : Nat} {σ : zS} {v1 : Int32} {s0 : Int32}  (hs : SPA σ0 σ) : zp (zb_M_assign_36 N σ v1 s0) (fun r => SPA σ0 r) := by
  unfold zb_M_assign_36
  refine zp_ite (fun _ => ?_) fun _ => ?_
  ·
    refine zp_ite (fun _ => ?_) fun _ => ?_
    ·
      exact sp_b_M_assign_56  hs
    ·
      exact sp_b_M_assign_56  hs
  ·
    exact zp_some hs
theorem sp_b_M_assign_22 {σ0 : zS} {N : Nat} {σ : zS} {v1 : Int32}  (hs : SPA σ0 σ) : zp (zb_M_assign_22 N σ v1) (fun r => SPA σ0 r) := by
  unfold zb_M_assign_22
  refine zp_ite (fun _ => ?_) fun _ => ?_
  ·
    exact sp_b_M_assign_36  hs
  ·
    refine zp_bind (zp_mono (sp_f_M_local  hs) fun r34 hr34 => ?_)
    exact sp_b_M_assign_36  hr34
theorem sp_f_M_assign {σ0 : zS} {N : Nat} {σ : zS}  (hs : SPA σ0 σ) : zp (zf_M_assign N σ) (fun r => SPA σ0 r) := by
  unfold zf_M_assign
  refine zp_bind fun r1 _ => ?_
  refine zp_ite (fun _ => ?_) fun _ => ?_
  ·
    exact sp_b_M_assign_22  hs
  ·
    refine zp_bind fun r35 _ => ?_
    refine zp_ite (fun _ => ?_) fun _ => ?_
    ·
      exact sp_b_M_assign_22  hs
    ·
      refine zp_bind (zp_mono (sp_f_M_cannot  hs) fun r37 hr37 => ?_)
      exact zp_some hr37
theorem sp_b_M_statement_402 {σ0 : zS} {N : Nat} {σ : zS} {v1 : Int32} {s0 : Int32}  (hs : SPA σ0 σ) : zp (zb_M_statement_402 N σ v1 s0) (fun r => SPA σ0 r) := by
  unfold zb_M_statement_402
  refine zp_bind (zp_mono (sp_f_M_addStep  hs) fun r32 hr32 => ?_)
  refine zp_bind (zp_mono (sp_f_M_nextIfWell  hr32) fun r33 hr33 => ?_)
  refine zp_bind (zp_mono (sp_f_M_threadNamed  hr33) fun r34 hr34 => ?_)
  refine zp_chk fun ck => ?_
  refine zp_bind (zp_mono (sp_f_M_take  (SPA.up (by decide) hr34)) fun r36 hr36 => ?_)
  exact zp_some hr36
theorem sp_b_M_statement_364 {σ0 : zS} {N : Nat} {σ : zS} {v1 : Int32} {v2 : Int32}  (hs : SPA σ0 σ) : zp (zb_M_statement_364 N σ v1 v2) (fun r => SPA σ0 r) := by
  unfold zb_M_statement_364
  refine zp_bind (zp_mono (sp_f_M_lockNamed  hs) fun r42 hr42 => ?_)
  refine zp_chk fun ck => ?_
  refine zp_bind (zp_mono (sp_f_M_take  (SPA.up (by decide) hr42)) fun r44 hr44 => ?_)
  exact zp_some hr44
theorem sp_b_M_statement_153 {σ0 : zS} {N : Nat} {σ : zS} {v2 : Int32}  (hs : SPA σ0 σ) : zp (zb_M_statement_153 N σ v2) (fun r => SPA σ0 r) := by
  unfold zb_M_statement_153
  refine zp_bind (zp_mono (sp_f_M_openBlock  hs) fun r69 hr69 => ?_)
  exact zp_some hr69
theorem sp_f_M_statement {σ0 : zS} {N : Nat} {σ : zS}  (hs : SPA σ0 σ) : zp (zf_M_statement N σ) (fun r => SPA σ0 r) := by
  unfold zf_M_statement
  refine zp_ite (fun _ => ?_) fun _ => ?_
  ·
    refine zp_ite (fun _ => ?_) fun _ => ?_
    ·
      refine zp_ite (fun _ => ?_) fun _ => ?_
      ·
        refine zp_bind (zp_mono (sp_f_M_addStep  hs) fun r64 hr64 => ?_)
        refine zp_bind (zp_mono (sp_f_M_nextIfWell  hr64) fun r65 hr65 => ?_)
        refine zp_bind (zp_mono (sp_f_M_lockNamed  hr65) fun r66 hr66 => ?_)
        refine zp_chk fun ck => ?_
        refine zp_ite (fun _ => ?_) fun _ => ?_
        ·
          exact sp_b_M_statement_153  (SPA.up (by decide) hr66)
        ·
          refine zp_chk fun ck => ?_
          exact sp_b_M_statement_153  (SPA.u8 (by decide) (SPA.up (by decide) hr66))
      ·
        refine zp_ite (fun _ => ?_) fun _ => ?_
        ·
          refine zp_bind (zp_mono (sp_f_M_cannot  hs) fun r63 hr63 => ?_)
          exact zp_some hr63
        ·
          refine zp_ite (fun _ => ?_) fun _ => ?_
          ·
            refine zp_bind (zp_mono (sp_f_M_addStep  hs) fun r59 hr59 => ?_)
            refine zp_bind (zp_mono (sp_f_M_nextIfWell  hr59) fun r60 hr60 => ?_)
            refine zp_bind (zp_mono (sp_f_M_test  hr60) fun r61 hr61 => ?_)
            refine zp_bind (zp_mono (sp_f_M_openBlock  hr61) fun r62 hr62 => ?_)
            exact zp_some hr62
          ·
            refine zp_ite (fun _ => ?_) fun _ => ?_
            ·
              refine zp_bind (zp_mono (sp_f_M_cannot  hs) fun r58 hr58 => ?_)
              exact zp_some hr58
            ·
              refine zp_ite (fun _ => ?_) fun _ => ?_
              ·
                refine zp_bind (zp_mono (sp_f_M_addStep  hs) fun r54 hr54 => ?_)
                refine zp_bind (zp_mono (sp_f_M_nextIfWell  hr54) fun r55 hr55 => ?_)
                refine zp_bind (zp_mono (sp_f_M_test  hr55) fun r56 hr56 => ?_)
                refine zp_bind (zp_mono (sp_f_M_openBlock  hr56) fun r57 hr57 => ?_)
                exact zp_some hr57
              ·
                refine zp_ite (fun _ => ?_) fun _ => ?_
                ·
                  refine zp_bind (zp_mono (sp_f_M_addStep  hs) fun r49 hr49 => ?_)
                  refine zp_bind (zp_mono (sp_f_M_nextIfWell  hr49) fun r50 hr50 => ?_)
                  refine zp_bind (zp_mono (sp_f_M_lockNamed  hr50) fun r51 hr51 => ?_)
                  refine zp_chk fun ck => ?_
                  refine zp_bind (zp_mono (sp_f_M_take  (SPA.up (by decide) hr51)) fun r53 hr53 => ?_)
                  exact zp_some hr53
                ·
                  refine zp_ite (fun _ => ?_) fun _ => ?_
                  ·
                    refine zp_bind (zp_mono (sp_f_M_addStep  hs) fun r39 hr39 => ?_)
                    refine zp_bind (zp_mono (sp_f_M_nextIfWell  hr39) fun r40 hr40 => ?_)
                    refine zp_ite (fun _ => ?_) fun _ => ?_
                    ·
                      exact sp_b_M_statement_364  hr40
                    ·
                      refine zp_bind fun r45 _ => ?_
                      refine zp_ite (fun _ => ?_) fun _ => ?_
                      ·
                        exact sp_b_M_statement_364  hr40
                      ·
                        refine zp_chk fun ck => ?_
                        refine zp_bind (zp_mono (sp_f_M_next  (SPA.up (by decide) hr40)) fun r48 hr48 => ?_)
                        exact sp_b_M_statement_364  hr48
                  ·
                    refine zp_ite (fun _ => ?_) fun _ => ?_
                    ·
                      refine zp_bind (zp_mono (sp_f_M_cannot  hs) fun r38 hr38 => ?_)
                      exact zp_some hr38
                    ·
                      refine zp_ite (fun _ => ?_) fun _ => ?_
                      ·
                        refine zp_ite (fun _ => ?_) fun _ => ?_
                        ·
                          exact sp_b_M_statement_402  hs
                        ·
                          exact sp_b_M_statement_402  hs
                      ·
                        refine zp_ite (fun _ => ?_) fun _ => ?_
                        ·
                          refine zp_ite (fun _ => ?_) fun _ => ?_
                          ·
                            exact sp_b_M_statement_402  hs
                          ·
                            exact sp_b_M_statement_402  hs
                        ·
                          refine zp_ite (fun _ => ?_) fun _ => ?_
                          ·
                            refine zp_bind (zp_mono (sp_f_M_addStep  hs) fun r27 hr27 => ?_)
                            refine zp_bind (zp_mono (sp_f_M_nextIfWell  hr27) fun r28 hr28 => ?_)
                            refine zp_bind (zp_mono (sp_f_M_test  hr28) fun r29 hr29 => ?_)
                            refine zp_bind (zp_mono (sp_f_M_take  hr29) fun r30 hr30 => ?_)
                            exact zp_some hr30
                          ·
                            refine zp_ite (fun _ => ?_) fun _ => ?_
                            ·
                              refine zp_bind (zp_mono (sp_f_M_addStep  hs) fun r24 hr24 => ?_)
                              refine zp_bind (zp_mono (sp_f_M_nextIfWell  hr24) fun r25 hr25 => ?_)
                              refine zp_bind (zp_mono (sp_f_M_take  hr25) fun r26 hr26 => ?_)
                              exact zp_some hr26
                            ·
                              refine zp_ite (fun _ => ?_) fun _ => ?_
                              ·
                                refine zp_ite (fun _ => ?_) fun _ => ?_
                                ·
                                  refine zp_ite (fun _ => ?_) fun _ => ?_
                                  ·
                                    refine zp_bind (zp_mono (sp_f_M_next  hs) fun r19 hr19 => ?_)
                                    refine zp_bind (zp_mono (sp_f_M_openBlock  hr19) fun r20 hr20 => ?_)
                                    refine zp_chk fun ck => ?_
                                    exact zp_some (SPA.span ck hr20)
                                  ·
                                    refine zp_bind (zp_mono (sp_f_M_fail  hs) fun r22 hr22 => ?_)
                                    exact zp_some hr22
                                ·
                                  refine zp_bind (zp_mono (sp_f_M_cannot  hs) fun r23 hr23 => ?_)
                                  exact zp_some hr23
                              ·
                                refine zp_bind (zp_mono (sp_f_M_cannot  hs) fun r16 hr16 => ?_)
                                exact zp_some hr16
    ·
      refine zp_bind (zp_mono (sp_f_M_cannot  hs) fun r71 hr71 => ?_)
      exact zp_some hr71
  ·
    refine zp_bind (zp_mono (sp_f_M_assign  hs) fun r72 hr72 => ?_)
    exact zp_some hr72
theorem sp_b_M_joinOpen_8 {σ0 : zS} {N : Nat}  : ∀ (n : Nat) (σ : zS) (v1 : Int32) (v2 : Int32), SPA σ0 σ → zp (zb_M_joinOpen_8 N n σ v1 v2) (fun r => SPA σ0 r) := by
  intro n
  induction n with
  | zero => intro _ _ _ _; exact zp_none
  | succ n ih =>
    intro σ v1 v2 hs
    rw [zb_M_joinOpen_8]
    refine zp_chk fun ck => ?_
    refine zp_ite (fun _ => ?_) fun _ => ?_
    ·
      refine zp_chk fun ck => ?_
      exact zp_some (SPA.u8 (by decide) (SPA.up (by decide) hs))
    ·
      refine zp_chk fun ck => ?_
      exact ih _ _ _ hs
theorem sp_f_M_joinOpen {σ0 : zS} {N : Nat} {σ : zS} {x1 : Int32}  (hs : SPA σ0 σ) : zp (zf_M_joinOpen N σ x1) (fun r => SPA σ0 r) := by
  unfold zf_M_joinOpen
  refine zp_ite (fun _ => ?_) fun _ => ?_
  ·
    exact sp_b_M_joinOpen_8  _ _ _ _ hs
  ·
    exact zp_some hs
theorem sp_b_M_closeBlock_177 {σ0 : zS} {N : Nat} {σ : zS} {v1 : Int32}  (hs : SPA σ0 σ) : zp (zb_M_closeBlock_177 N σ v1) (fun r => SPA σ0 r) := by
  unfold zb_M_closeBlock_177
  refine zp_bind (zp_mono (sp_f_M_next  (SPA.u8 (by decide) hs)) fun r7 hr7 => ?_)
  refine zp_chk fun ck => ?_
  refine zp_ite (fun _ => ?_) fun _ => ?_
  ·
    exact zp_some hr7
  ·
    refine zp_bind fun r10 _ => ?_
    refine zp_ite (fun _ => ?_) fun _ => ?_
    ·
      refine zp_chk fun ck => ?_
      refine zp_bind (zp_mono (sp_f_M_wayOf  hr7) fun r13 hr13 => ?_)
      refine zp_bind (zp_mono (sp_f_M_joinOpen  hr13) fun r14 hr14 => ?_)
      exact zp_some hr14
    ·
      refine zp_bind (zp_mono (sp_f_M_next  hr7) fun r15 hr15 => ?_)
      refine zp_chk fun ck => ?_
      refine zp_bind (zp_mono (sp_f_M_wayOf  hr15) fun r17 hr17 => ?_)
      refine zp_chk fun ck => ?_
      refine zp_bind (zp_mono (sp_f_M_openBlock  (SPA.u8 (by decide) hr17)) fun r19 hr19 => ?_)
      refine zp_chk fun ck => ?_
      exact zp_some (SPA.up (by decide) hr19)
theorem sp_f_M_closeBlock {σ0 : zS} {N : Nat} {σ : zS}  (hs : SPA σ0 σ) : zp (zf_M_closeBlock N σ) (fun r => SPA σ0 r) := by
  unfold zf_M_closeBlock
  refine zp_chk fun ck => ?_
  refine zp_ite (fun _ => ?_) fun _ => ?_
  ·
    refine zp_chk fun ck => ?_
    refine zp_chk fun ck => ?_
    refine zp_bind (zp_mono (sp_f_M_addStep  hs) fun r29 hr29 => ?_)
    refine zp_ite (fun _ => ?_) fun _ => ?_
    ·
      refine zp_chk fun ck => ?_
      refine zp_chk fun ck => ?_
      refine zp_chk fun ck => ?_
      refine zp_chk fun ck => ?_
      refine zp_chk fun ck => ?_
      exact sp_b_M_closeBlock_177  (SPA.u8 (by decide) hr29)
    ·
      exact zp_some hr29
  ·
    refine zp_ite (fun _ => ?_) fun _ => ?_
    ·
      exact sp_b_M_closeBlock_177  (SPA.m1 hs)
    ·
      refine zp_ite (fun _ => ?_) fun _ => ?_
      ·
        exact sp_b_M_closeBlock_177  hs
      ·
        refine zp_ite (fun _ => ?_) fun _ => ?_
        ·
          refine zp_chk fun ck => ?_
          refine zp_bind (zp_mono (sp_f_M_joinOpen  hs) fun r26 hr26 => ?_)
          exact sp_b_M_closeBlock_177  hr26
        ·
          refine zp_ite (fun _ => ?_) fun _ => ?_
          ·
            refine zp_chk fun ck => ?_
            refine zp_bind (zp_mono (sp_f_M_lead  hs) fun r22 hr22 => ?_)
            refine zp_chk fun ck => ?_
            refine zp_bind (zp_mono (sp_f_M_wayOf  hr22) fun r24 hr24 => ?_)
            exact sp_b_M_closeBlock_177  (SPA.u8 (by decide) hr24)
          ·
            exact sp_b_M_closeBlock_177  hs
theorem sp_b_M_readThread_235 {σ0 : zS} {k178 : zS → Int32 → Option (zS)} {N : Nat} {σ : zS} {v1 : Int32} {s0 : Int32} {s1 : Int32} (hk178 : ∀ (y0 : zS) (y1 : Int32), SPA σ0 y0 → zp (k178 y0 y1) (fun r => SPA σ0 r)) (hs : SPA σ0 σ) : zp (zb_M_readThread_235 k178 N σ v1 s0 s1) (fun r => SPA σ0 r) := by
  unfold zb_M_readThread_235
  refine zp_chk fun ck => ?_
  exact hk178 _ _ (SPA.up (by decide) hs)
theorem sp_b_M_readThread_178 {σ0 : zS} {N : Nat}  : ∀ (n : Nat) (σ : zS) (v1 : Int32), SPA σ0 σ → zp (zb_M_readThread_178 N n σ v1) (fun r => SPA σ0 r) := by
  intro n
  induction n with
  | zero => intro _ _ _; exact zp_none
  | succ n ih =>
    intro σ v1 hs
    rw [zb_M_readThread_178]
    refine zp_chk fun ck => ?_
    refine zp_ite (fun _ => ?_) fun _ => ?_
    ·
      exact zp_some hs
    ·
      refine zp_chk fun ck => ?_
      refine zp_ite (fun _ => ?_) fun _ => ?_
      ·
        refine zp_chk fun ck => ?_
        exact sp_b_M_readThread_235 (ih) hs
      ·
        refine zp_chk fun ck => ?_
        exact sp_b_M_readThread_235 (ih) hs
theorem sp_b_M_readThread_155 {σ0 : zS} {N : Nat} {σ : zS}  (hs : SPA σ0 σ) : zp (zb_M_readThread_155 N σ) (fun r => SPA σ0 r) := by
  unfold zb_M_readThread_155
  refine zp_ite (fun _ => ?_) fun _ => ?_
  ·
    refine zp_chk fun ck => ?_
    refine zp_bind (zp_mono (sp_f_M_lead  hs) fun r13 hr13 => ?_)
    exact sp_b_M_readThread_178  _ _ _ hr13
  ·
    exact zp_some hs
theorem sp_b_M_readThread_118 {σ0 : zS} {N : Nat}  : ∀ (n : Nat) (σ : zS), SPA σ0 σ → zp (zb_M_readThread_118 N n σ) (fun r => SPA σ0 r) := by
  intro n
  induction n with
  | zero => intro _ _; exact zp_none
  | succ n ih =>
    intro σ hs
    rw [zb_M_readThread_118]
    refine zp_ite (fun _ => ?_) fun _ => ?_
    ·
      exact sp_b_M_readThread_155  hs
    ·
      refine zp_ite (fun _ => ?_) fun _ => ?_
      ·
        exact sp_b_M_readThread_155  hs
      ·
        refine zp_bind fun r22 _ => ?_
        refine zp_ite (fun _ => ?_) fun _ => ?_
        ·
          refine zp_bind (zp_mono (sp_f_M_statement  hs) fun r24 hr24 => ?_)
          exact ih _ hr24
        ·
          refine zp_bind (zp_mono (sp_f_M_closeBlock  hs) fun r25 hr25 => ?_)
          exact ih _ hr25
theorem sp_f_M_readThread {σ0 : zS} {N : Nat} {σ : zS} (hs : SPA σ0 σ) : zp (zf_M_readThread N σ) (fun r => SPA σ0 r) := by
  unfold zf_M_readThread
  refine zp_bind (zp_mono (sp_f_M_next hs) fun r1 h1 => zp_ite (fun _ => zp_bind fun r3 _ => zp_ite (fun _ => zp_ite (fun _ => zp_bind (zp_mono (sp_f_M_call h1) fun r6 h6 => ?_)) fun _ => zp_bind (zp_mono (sp_f_M_fail h1) fun r h => zp_some h)) fun _ => zp_bind (zp_mono (sp_f_M_fail h1) fun r h => zp_some h)) fun _ => zp_bind (zp_mono (sp_f_M_cannot h1) fun r h => zp_some h))
  refine zp_bind (zp_mono (sg_f_M_next (σ0 := zx_up (zx_up r6 82 39 (r6 82 17)) 82 17 (r6 82 17 + 1)) SPF.rfl') fun r7 h7 => zp_chk fun ck => ?_)
  obtain ⟨⟨a90, a91, a97⟩, a17, a25, a39, a41⟩ := h7
  rw [zu_other (by decide), zu_other (by decide)] at a90 a91 a97
  rw [zx_up_same, zu_eq] at a17
  rw [zx_up_same, zu_ne (by decide), zx_up_same, zu_ne (by decide)] at a25
  rw [zx_up_same, zu_ne (by decide), zx_up_same, zu_eq] at a39
  obtain ⟨T, T4, eT⟩ := z_ex (m := 4) (by omega) ck.1 ck.2
  rw [eT, zo_n (m := T) (by omega)]
  have e17 : r6 82 17 = Int32.ofNat T := a39.symm.trans eT
  rw [e17, zo_1 (m := T) (by omega)] at a17
  have Y : SPA σ0 (zx_up (zx_up (zx_up (zx_up (zx_up (zx_up r7 90 T 0) 82 18 0) 82 46 0) 82 40 0) 82 41 (-1)) 82 37 (-1)) := by
    have q90 : (zx_up (zx_up (zx_up (zx_up (zx_up (zx_up r7 90 T 0) 82 18 0) 82 46 0) 82 40 0) 82 41 (-1)) 82 37 (-1)) 90 = zu (r6 90) T 0 := by
      iterate 5 rw [zu_other (by decide)]
      rw [zx_up_same, a90]
    have q91 : (zx_up (zx_up (zx_up (zx_up (zx_up (zx_up r7 90 T 0) 82 18 0) 82 46 0) 82 40 0) 82 41 (-1)) 82 37 (-1)) 91 = r6 91 := by
      iterate 6 rw [zu_other (by decide)]
      exact a91
    have q97 : (zx_up (zx_up (zx_up (zx_up (zx_up (zx_up r7 90 T 0) 82 18 0) 82 46 0) 82 40 0) 82 41 (-1)) 82 37 (-1)) 97 = r6 97 := by
      iterate 6 rw [zu_other (by decide)]
      exact a97
    have q82 : ∀ i, i ≠ 18 → i ≠ 46 → i ≠ 40 → i ≠ 41 → i ≠ 37 → (zx_up (zx_up (zx_up (zx_up (zx_up (zx_up r7 90 T 0) 82 18 0) 82 46 0) 82 40 0) 82 41 (-1)) 82 37 (-1)) 82 i = r7 82 i := fun i a b c d e => by
      rw [zx_up_same, zu_ne e, zx_up_same, zu_ne d, zx_up_same, zu_ne c, zx_up_same, zu_ne b, zx_up_same, zu_ne a, zu_other (by decide)]
    have q41 : (zx_up (zx_up (zx_up (zx_up (zx_up (zx_up r7 90 T 0) 82 18 0) 82 46 0) 82 40 0) 82 41 (-1)) 82 37 (-1)) 82 41 = -1 := by rw [zx_up_same, zu_ne (by decide), zx_up_same, zu_eq]
    generalize (zx_up (zx_up (zx_up (zx_up (zx_up (zx_up r7 90 T 0) 82 18 0) 82 46 0) 82 40 0) 82 41 (-1)) 82 37 (-1)) = Y at q90 q91 q97 q82 q41
    obtain ⟨h1, h2, h3, h4⟩ := h6
    unfold SPA
    rw [q90, q91, q97, q82 17 (by decide) (by decide) (by decide) (by decide) (by decide), q82 25 (by decide) (by decide) (by decide) (by decide) (by decide), q41, a17, a25]
    refine ⟨fun t s k t4 ht s24 hs k6 ek => ?_, fun _ k hk q => absurd q.symm (zo_ne (by omega)), h3, fun t t4 => ?_⟩
    · by_cases c : t = T
      · rw [c, zu_eq] at hs
        have := (zo_lt (k := s) (j := 0) (by omega) (by omega)).mp hs
        omega
      · rw [zu_ne c] at hs
        have tl := (zo_lt (k := t) (j := T + 1) (by omega) (by omega)).mp ht
        exact h1 t s k t4 (by rw [e17]; exact (zo_lt (by omega) (by omega)).mpr (by omega)) s24 hs k6 ek
    · by_cases c : t = T
      · rw [c, zu_eq]; decide
      · rw [zu_ne c]; exact h4 t t4
  exact zp_bind (zp_mono (sp_f_M_openBlock Y) fun r9 h9 => sp_b_M_readThread_118 _ _ h9)
theorem sp_f_M_readTold {σ0 : zS} {N : Nat} {σ : zS} {x1 : Int32} {x2 : Int32} {x3 : Int32}  (hs : SPA σ0 σ) : zp (zf_M_readTold N σ x1 x2 x3) (fun r => SPA σ0 r) := by
  unfold zf_M_readTold
  refine zp_ite (fun _ => ?_) fun _ => ?_
  ·
    refine zp_bind fun r2 _ => ?_
    refine zp_ite (fun _ => ?_) fun _ => ?_
    ·
      refine zp_ite (fun _ => ?_) fun _ => ?_
      ·
        refine zp_bind (zp_mono (sp_f_M_call  hs) fun r5 hr5 => ?_)
        refine zp_bind (zp_mono (sp_f_M_next  hr5) fun r6 hr6 => ?_)
        exact zp_some hr6
      ·
        refine zp_bind (zp_mono (sp_f_M_fail  hs) fun r7 hr7 => ?_)
        exact zp_some hr7
    ·
      refine zp_bind (zp_mono (sp_f_M_fail  hs) fun r8 hr8 => ?_)
      exact zp_some hr8
  ·
    refine zp_bind (zp_mono (sp_f_M_cannot  hs) fun r9 hr9 => ?_)
    exact zp_some hr9
theorem sp_b_M_readField_86 {σ0 : zS} {N : Nat} {σ : zS}  (hs : SPA σ0 σ) : zp (zb_M_readField_86 N σ) (fun r => SPA σ0 r) := by
  unfold zb_M_readField_86
  refine zp_bind (zp_mono (sp_f_M_take  (SPA.u8 (by decide) hs)) fun r8 hr8 => ?_)
  exact zp_some hr8
theorem sp_f_M_readField {σ0 : zS} {N : Nat} {σ : zS} {x1 : Int32}  (hs : SPA σ0 σ) : zp (zf_M_readField N σ x1) (fun r => SPA σ0 r) := by
  unfold zf_M_readField
  refine zp_bind (zp_mono (sp_f_M_next  hs) fun r1 hr1 => ?_)
  refine zp_bind (zp_mono (sp_f_M_readTold  hr1) fun r2 hr2 => ?_)
  refine zp_ite (fun _ => ?_) fun _ => ?_
  ·
    refine zp_chk fun ck => ?_
    refine zp_chk fun ck => ?_
    refine zp_bind fun r6 _ => ?_
    refine zp_ite (fun _ => ?_) fun _ => ?_
    ·
      exact sp_b_M_readField_86  (SPA.up (by decide) (SPA.up (by decide) hr2))
    ·
      refine zp_bind (zp_mono (sp_f_M_next  (SPA.up (by decide) (SPA.up (by decide) hr2))) fun r9 hr9 => ?_)
      refine zp_chk fun ck => ?_
      refine zp_ite (fun _ => ?_) fun _ => ?_
      ·
        refine zp_bind (zp_mono (sp_f_M_next  (SPA.up (by decide) hr9)) fun r12 hr12 => ?_)
        exact sp_b_M_readField_86  hr12
      ·
        refine zp_bind (zp_mono (sp_f_M_cannot  (SPA.up (by decide) hr9)) fun r13 hr13 => ?_)
        exact zp_some hr13
  ·
    exact zp_some hr2
theorem sp_b_M_read_268 {σ0 : zS} {N : Nat} {σ : zS} {s0 : Int32}  (hs : SPA σ0 σ) : zp (zb_M_read_268 N σ s0) (fun r => SPA σ0 r.2) := by
  unfold zb_M_read_268
  refine zp_chk fun ck => ?_
  refine zp_ite (fun _ => ?_) fun _ => ?_
  ·
    refine zp_bind fun r10 _ => ?_
    exact zp_some (SPA.u8 (by decide) (SPA.u8 (by decide) hs))
  ·
    exact zp_some (SPA.u8 (by decide) (SPA.u8 (by decide) hs))
theorem sp_b_M_read_255 {σ0 : zS} {N : Nat} {σ : zS}  (hs : SPA σ0 σ) : zp (zb_M_read_255 N σ) (fun r => SPA σ0 r.2) := by
  unfold zb_M_read_255
  refine zp_ite (fun _ => ?_) fun _ => ?_
  ·
    exact sp_b_M_read_268  hs
  ·
    exact sp_b_M_read_268  hs
theorem sp_b_M_read_244 {σ0 : zS} {N : Nat} {σ : zS}  (hs : SPA σ0 σ) : zp (zb_M_read_244 N σ) (fun r => SPA σ0 r.2) := by
  unfold zb_M_read_244
  refine zp_ite (fun _ => ?_) fun _ => ?_
  ·
    exact sp_b_M_read_255  hs
  ·
    refine zp_bind (zp_mono (sp_f_M_findLaters  hs) fun r11 hr11 => ?_)
    exact sp_b_M_read_255  hr11
theorem sp_b_M_read_226 {σ0 : zS} {N : Nat} {σ : zS}  (hs : SPA σ0 σ) : zp (zb_M_read_226 N σ) (fun r => SPA σ0 r.2) := by
  unfold zb_M_read_226
  refine zp_ite (fun _ => ?_) fun _ => ?_
  ·
    exact sp_b_M_read_244  hs
  ·
    refine zp_ite (fun _ => ?_) fun _ => ?_
    ·
      exact sp_b_M_read_244  hs
    ·
      refine zp_bind (zp_mono (sp_f_M_cannot  hs) fun r13 hr13 => ?_)
      exact sp_b_M_read_244  hr13
theorem sp_b_M_read_204 {σ0 : zS} {N : Nat}  : ∀ (n : Nat) (σ : zS), SPA σ0 σ → zp (zb_M_read_204 N n σ) (fun r => SPA σ0 r.2) := by
  intro n
  induction n with
  | zero => intro _ _; exact zp_none
  | succ n ih =>
    intro σ hs
    rw [zb_M_read_204]
    refine zp_ite (fun _ => ?_) fun _ => ?_
    ·
      exact sp_b_M_read_226  hs
    ·
      refine zp_bind fun r14 _ => ?_
      refine zp_ite (fun _ => ?_) fun _ => ?_
      ·
        exact sp_b_M_read_226  hs
      ·
        refine zp_bind (zp_mono (sp_f_M_readThread  hs) fun r16 hr16 => ?_)
        exact ih _ hr16
theorem sp_b_M_read_180 {σ0 : zS} {k105 : zS → Option (Int32 × zS)} {N : Nat} {σ : zS} {s0 : Int32} (hk105 : ∀ (y0 : zS), SPA σ0 y0 → zp (k105 y0) (fun r => SPA σ0 r.2)) (hs : SPA σ0 σ) : zp (zb_M_read_180 k105 N σ s0) (fun r => SPA σ0 r.2) := by
  unfold zb_M_read_180
  refine zp_bind (zp_mono (sp_f_M_take  (SPA.u8 (by decide) hs)) fun r26 hr26 => ?_)
  exact hk105 _ hr26
theorem sp_b_M_read_136 {σ0 : zS} {k105 : zS → Option (Int32 × zS)} {N : Nat} {σ : zS} (hk105 : ∀ (y0 : zS), SPA σ0 y0 → zp (k105 y0) (fun r => SPA σ0 r.2)) (hs : SPA σ0 σ) : zp (zb_M_read_136 k105 N σ) (fun r => SPA σ0 r.2) := by
  unfold zb_M_read_136
  refine zp_bind fun r19 _ => ?_
  refine zp_ite (fun _ => ?_) fun _ => ?_
  ·
    refine zp_bind fun r21 _ => ?_
    refine zp_bind (zp_mono (sp_f_M_readField  hs) fun r22 hr22 => ?_)
    exact hk105 _ hr22
  ·
    refine zp_bind (zp_mono (sp_f_M_next  hs) fun r23 hr23 => ?_)
    refine zp_bind (zp_mono (sp_f_M_readTold  hr23) fun r24 hr24 => ?_)
    refine zp_ite (fun _ => ?_) fun _ => ?_
    ·
      exact sp_b_M_read_180 (hk105) hr24
    ·
      exact sp_b_M_read_180 (hk105) hr24
theorem sp_b_M_read_105 {σ0 : zS} {N : Nat}  : ∀ (n : Nat) (σ : zS), SPA σ0 σ → zp (zb_M_read_105 N n σ) (fun r => SPA σ0 r.2) := by
  intro n
  induction n with
  | zero => intro _ _; exact zp_none
  | succ n ih =>
    intro σ hs
    rw [zb_M_read_105]
    refine zp_ite (fun _ => ?_) fun _ => ?_
    ·
      exact sp_b_M_read_204  _ _ hs
    ·
      refine zp_bind fun r17 _ => ?_
      refine zp_ite (fun _ => ?_) fun _ => ?_
      ·
        exact sp_b_M_read_136 (ih) hs
      ·
        refine zp_bind fun r27 _ => ?_
        refine zp_ite (fun _ => ?_) fun _ => ?_
        ·
          exact sp_b_M_read_136 (ih) hs
        ·
          refine zp_bind fun r29 _ => ?_
          refine zp_ite (fun _ => ?_) fun _ => ?_
          ·
            exact sp_b_M_read_204  _ _ hs
          ·
            exact sp_b_M_read_136 (ih) hs
theorem m_readSP {N : Nat} {μ : zS} (st : ∀ t, 0 ≤ μ 90 t ∧ μ 90 t ≤ 24) : zp (zf_M_read N μ) (fun s => SPA s.2 s.2) := by
  have go : ∀ (n : Nat) (ν : zS) (v : Int32), ν 90 = μ 90 → zp (zb_M_read_20 N n ν v) (fun s => SPA μ s.2) := by
    intro n
    induction n with
    | zero => intro _ _ _; exact zp_none
    | succ n ih =>
      intro ν v e
      rw [zb_M_read_20]
      refine zp_ite (fun _ => zp_bind (zp_mono (sp_f_M_next (σ0 := μ) ?_) fun r2 h2 => sp_b_M_read_105 _ _ h2)) fun _ => zp_chk fun _ => zp_chk fun _ => ih _ _ (by rw [zu_other (by decide)]; exact e)
      have e90 : (zx_up (zx_up (zx_up (zx_up (zx_up (zx_up (zx_up (zx_up (zx_up (zx_up (zx_up ν 82 9 0) 82 10 0) 82 15 0) 82 16 0) 82 17 0) 82 25 0) 82 19 0) 82 5 0) 82 6 0) 82 53 0) 82 62 (-1)) 90 = μ 90 := by
        iterate 11 rw [zu_other (by decide)]
        exact e
      have e17 : (zx_up (zx_up (zx_up (zx_up (zx_up (zx_up (zx_up (zx_up (zx_up (zx_up (zx_up ν 82 9 0) 82 10 0) 82 15 0) 82 16 0) 82 17 0) 82 25 0) 82 19 0) 82 5 0) 82 6 0) 82 53 0) 82 62 (-1)) 82 17 = 0 := by
        iterate 6 rw [zx_up_same, zu_ne (by decide)]
        rw [zx_up_same, zu_eq]
      have e25 : (zx_up (zx_up (zx_up (zx_up (zx_up (zx_up (zx_up (zx_up (zx_up (zx_up (zx_up ν 82 9 0) 82 10 0) 82 15 0) 82 16 0) 82 17 0) 82 25 0) 82 19 0) 82 5 0) 82 6 0) 82 53 0) 82 62 (-1)) 82 25 = 0 := by
        iterate 5 rw [zx_up_same, zu_ne (by decide)]
        rw [zx_up_same, zu_eq]
      unfold SPA
      rw [e90, e17, e25]
      refine ⟨fun t s k t4 ht => ?_, fun q => absurd q (by decide), by decide, fun t _ => st t⟩
      have := (zo_lt (k := t) (j := 0) (by omega) (by omega)).mp ht
      omega
  unfold zf_M_read
  refine zp_mono (go _ _ _ ?_) fun s h => h.of ⟨rfl, rfl, rfl⟩ ⟨rfl, rfl, rfl, rfl⟩
  rw [zu_other (by decide), zu_other (by decide), zu_other (by decide)]
def F75 (σ0 σ : zS) : Prop := σ 75 = σ0 75
theorem F75.rfl' {σ : zS} : F75 σ σ := rfl
theorem F75.up {σ0 σ : zS} {p i : Nat} {x : Int32} (hp : 75 ≠ p) (h : F75 σ0 σ) : F75 σ0 (zx_up σ p i x) := by
  unfold F75 at *
  rw [zu_other hp]
  exact h
theorem F75.cp {σ0 σ : zS} {p q : Nat} {a b c : Int32} (hq : 75 ≠ q) (h : F75 σ0 σ) : F75 σ0 (zJ_copy σ p q a b c) := by
  unfold F75 at *
  rw [zJ_copy_ne hq]
  exact h
theorem sh_b_Arrays_fill_c3_5 {σ0 : zS} {N : Nat}  : ∀ (n : Nat) (σ : zS) (v1 : Int32) (v2 : Int32) (v3 : Int32), F75 σ0 σ → zp (zb_Arrays_fill_c3_5 N n σ v1 v2 v3) (fun r => F75 σ0 r) := by
  intro n
  induction n with
  | zero => intro _ _ _ _ _; exact zp_none
  | succ n ih =>
    intro σ v1 v2 v3 hs
    rw [zb_Arrays_fill_c3_5]
    refine zp_ite (fun _ => ?_) fun _ => ?_
    ·
      exact zp_some hs
    ·
      refine zp_chk fun _ => ?_
      exact ih _ _ _ _ (F75.up (by decide) hs)
theorem sh_f_Arrays_fill_c3 {σ0 : zS} {N : Nat} {σ : zS} {x2 : Int32}  (hs : F75 σ0 σ) : zp (zf_Arrays_fill_c3 N σ x2) (fun r => F75 σ0 r) := by
  unfold zf_Arrays_fill_c3
  exact sh_b_Arrays_fill_c3_5  _ _ _ _ _ hs
theorem sh_b_Machine_setFirst_50 {σ0 : zS} {k15 : zS → Int32 → Option (zS)} {N : Nat} {σ : zS} {v1 : Int32} {v2 : Int32} (hk15 : ∀ (y0 : zS) (y1 : Int32), F75 σ0 y0 → zp (k15 y0 y1) (fun r => F75 σ0 r)) (hs : F75 σ0 σ) : zp (zb_Machine_setFirst_50 k15 N σ v1 v2) (fun r => F75 σ0 r) := by
  unfold zb_Machine_setFirst_50
  refine zp_chk fun _ => ?_
  exact hk15 _ _ (F75.up (by decide) hs)
theorem sh_b_Machine_setFirst_36 {σ0 : zS} {k15 : zS → Int32 → Option (zS)} {N : Nat} {σ : zS} {v1 : Int32} {s0 : Int32} (hk15 : ∀ (y0 : zS) (y1 : Int32), F75 σ0 y0 → zp (k15 y0 y1) (fun r => F75 σ0 r)) (hs : F75 σ0 σ) : zp (zb_Machine_setFirst_36 k15 N σ v1 s0) (fun r => F75 σ0 r) := by
  unfold zb_Machine_setFirst_36
  refine zp_bind fun r4 _ => ?_
  refine zp_ite (fun _ => ?_) fun _ => ?_
  ·
    exact sh_b_Machine_setFirst_50 (hk15) hs
  ·
    exact sh_b_Machine_setFirst_50 (hk15) hs
theorem sh_b_Machine_setFirst_15 {σ0 : zS} {N : Nat}  : ∀ (n : Nat) (σ : zS) (v1 : Int32), F75 σ0 σ → zp (zb_Machine_setFirst_15 N n σ v1) (fun r => F75 σ0 r) := by
  intro n
  induction n with
  | zero => intro _ _ _; exact zp_none
  | succ n ih =>
    intro σ v1 hs
    rw [zb_Machine_setFirst_15]
    refine zp_ite (fun _ => ?_) fun _ => ?_
    ·
      exact zp_some hs
    ·
      refine zp_bind fun r2 _ => ?_
      refine zp_ite (fun _ => ?_) fun _ => ?_
      ·
        exact sh_b_Machine_setFirst_36 (ih) hs
      ·
        exact sh_b_Machine_setFirst_36 (ih) hs
theorem sh_f_Machine_setFirst {σ0 : zS} {N : Nat} {σ : zS}  (hs : F75 σ0 σ) : zp (zf_Machine_setFirst N σ) (fun r => F75 σ0 r) := by
  unfold zf_Machine_setFirst
  exact sh_b_Machine_setFirst_15  _ _ _ (F75.up (by decide) hs)
theorem sh_f_Space_note {σ0 : zS} {N : Nat} {σ : zS} {x1 : Int32}  (hs : F75 σ0 σ) : zp (zf_Space_note N σ x1) (fun r => F75 σ0 r.2) := by
  unfold zf_Space_note
  refine zp_bind fun r1 _ => ?_
  refine zp_chk fun _ => ?_
  refine zp_ite (fun _ => ?_) fun _ => ?_
  ·
    refine zp_ite (fun _ => ?_) fun _ => ?_
    ·
      exact zp_some hs
    ·
      refine zp_ite (fun _ => ?_) fun _ => ?_
      ·
        refine zp_chk fun _ => ?_
        refine zp_chk fun _ => ?_
        refine zp_chk fun _ => ?_
        exact zp_some (F75.up (by decide) (F75.up (by decide) (F75.up (by decide) (F75.cp (by decide) hs))))
      ·
        exact zp_some hs
  ·
    exact zp_some hs
theorem sh_b_Arrays_fill_c4_5 {σ0 : zS} {N : Nat}  : ∀ (n : Nat) (σ : zS) (v1 : Int32) (v2 : Int32) (v3 : Int32), F75 σ0 σ → zp (zb_Arrays_fill_c4_5 N n σ v1 v2 v3) (fun r => F75 σ0 r) := by
  intro n
  induction n with
  | zero => intro _ _ _ _ _; exact zp_none
  | succ n ih =>
    intro σ v1 v2 v3 hs
    rw [zb_Arrays_fill_c4_5]
    refine zp_ite (fun _ => ?_) fun _ => ?_
    ·
      exact zp_some hs
    ·
      refine zp_chk fun _ => ?_
      exact ih _ _ _ _ (F75.up (by decide) hs)
theorem sh_f_Arrays_fill_c4 {σ0 : zS} {N : Nat} {σ : zS} {x2 : Int32}  (hs : F75 σ0 σ) : zp (zf_Arrays_fill_c4 N σ x2) (fun r => F75 σ0 r) := by
  unfold zf_Arrays_fill_c4
  exact sh_b_Arrays_fill_c4_5  _ _ _ _ _ hs
theorem sh_b_Machine_load_130 {σ0 : zS} {k34 : zS → Int32 → Option (zS)} {N : Nat} {σ : zS} {v3 : Int32} (hk34 : ∀ (y0 : zS) (y1 : Int32), F75 σ0 y0 → zp (k34 y0 y1) (fun r => F75 σ0 r)) (hs : F75 σ0 σ) : zp (zb_Machine_load_130 k34 N σ v3) (fun r => F75 σ0 r) := by
  unfold zb_Machine_load_130
  exact hk34 _ _ hs
theorem sh_b_Machine_load_124 {σ0 : zS} {k95 : zS → Int32 → Int32 → Int32 → Option (zS)} {N : Nat} {σ : zS} {v3 : Int32} {v5 : Int32} {v6 : Int32} (hk95 : ∀ (y0 : zS) (y1 : Int32) (y2 : Int32) (y3 : Int32), F75 σ0 y0 → zp (k95 y0 y1 y2 y3) (fun r => F75 σ0 r)) (hs : F75 σ0 σ) : zp (zb_Machine_load_124 k95 N σ v3 v5 v6) (fun r => F75 σ0 r) := by
  unfold zb_Machine_load_124
  exact hk95 _ _ _ _ hs
theorem sh_b_Machine_load_95 {σ0 : zS} {k34 : zS → Int32 → Option (zS)} {N : Nat} (hk34 : ∀ (y0 : zS) (y1 : Int32), F75 σ0 y0 → zp (k34 y0 y1) (fun r => F75 σ0 r)) : ∀ (n : Nat) (σ : zS) (v3 : Int32) (v5 : Int32) (v6 : Int32), F75 σ0 σ → zp (zb_Machine_load_95 k34 N n σ v3 v5 v6) (fun r => F75 σ0 r) := by
  intro n
  induction n with
  | zero => intro _ _ _ _ _; exact zp_none
  | succ n ih =>
    intro σ v3 v5 v6 hs
    rw [zb_Machine_load_95]
    refine zp_ite (fun _ => ?_) fun _ => ?_
    ·
      exact sh_b_Machine_load_130 (hk34) hs
    ·
      refine zp_ite (fun _ => ?_) fun _ => ?_
      ·
        exact sh_b_Machine_load_130 (hk34) hs
      ·
        refine zp_ite (fun _ => ?_) fun _ => ?_
        ·
          exact sh_b_Machine_load_124 (ih) hs
        ·
          refine zp_chk fun _ => ?_
          exact sh_b_Machine_load_124 (ih) (F75.up (by decide) hs)
theorem sh_b_Machine_load_34 {σ0 : zS} {N : Nat}  : ∀ (n : Nat) (σ : zS) (v3 : Int32), F75 σ0 σ → zp (zb_Machine_load_34 N n σ v3) (fun r => F75 σ0 r) := by
  intro n
  induction n with
  | zero => intro _ _ _; exact zp_none
  | succ n ih =>
    intro σ v3 hs
    rw [zb_Machine_load_34]
    refine zp_ite (fun _ => ?_) fun _ => ?_
    ·
      exact zp_some hs
    ·
      refine zp_chk fun _ => ?_
      refine zp_chk fun _ => ?_
      refine zp_bind fun r8 _ => ?_
      refine zp_chk fun _ => ?_
      refine zp_bind fun r10 _ => ?_
      exact sh_b_Machine_load_95 (ih) _ _ _ _ _ (F75.up (by decide) (F75.up (by decide) hs))
theorem sh_f_Machine_load {σ0 : zS} {N : Nat} {σ : zS} {x2 : Int32}  (hs : F75 σ0 σ) : zp (zf_Machine_load N σ x2) (fun r => F75 σ0 r) := by
  unfold zf_Machine_load
  refine zp_ite (fun _ => ?_) fun _ => ?_
  ·
    exact zp_some hs
  ·
    refine zp_ite (fun _ => ?_) fun _ => ?_
    ·
      refine zp_chk fun _ => ?_
      refine zp_bind (zp_mono (sh_f_Arrays_fill_c4  (F75.cp (by decide) hs)) fun r4 hr4 => ?_)
      exact sh_b_Machine_load_34  _ _ _ hr4
    ·
      exact zp_some hs
theorem sh_f_Space_load {σ0 : zS} {N : Nat} {σ : zS} {x1 : Int32}  (hs : F75 σ0 σ) : zp (zf_Space_load N σ x1) (fun r => F75 σ0 r) := by
  unfold zf_Space_load
  refine zp_bind fun r1 _ => ?_
  refine zp_ite (fun _ => ?_) fun _ => ?_
  ·
    exact zp_some hs
  ·
    refine zp_bind (zp_mono (sh_f_Machine_load  hs) fun r3 hr3 => ?_)
    exact zp_some hr3
theorem sh_b_Machine_place_30 {σ0 : zS} {σ : zS} {v1 : Int32} {v2 : Int32} {v3 : Int32} {s0 : Int32}  (hs : F75 σ0 σ) : zp (zb_Machine_place_30 σ v1 v2 v3 s0) (fun r => F75 σ0 r) := by
  unfold zb_Machine_place_30
  refine zp_ite (fun _ => ?_) fun _ => ?_
  ·
    exact zp_some hs
  ·
    refine zp_ite (fun _ => ?_) fun _ => ?_
    ·
      exact zp_some hs
    ·
      refine zp_chk fun _ => ?_
      refine zp_chk fun _ => ?_
      exact zp_some (F75.up (by decide) hs)
theorem sh_b_Machine_place_15 {σ0 : zS} {σ : zS} {v1 : Int32} {v2 : Int32} {v3 : Int32} {s0 : Int32}  (hs : F75 σ0 σ) : zp (zb_Machine_place_15 σ v1 v2 v3 s0) (fun r => F75 σ0 r) := by
  unfold zb_Machine_place_15
  refine zp_ite (fun _ => ?_) fun _ => ?_
  ·
    exact sh_b_Machine_place_30  hs
  ·
    exact sh_b_Machine_place_30  hs
theorem sh_b_Machine_place_10 {σ0 : zS} {σ : zS} {v1 : Int32} {v2 : Int32} {v3 : Int32}  (hs : F75 σ0 σ) : zp (zb_Machine_place_10 σ v1 v2 v3) (fun r => F75 σ0 r) := by
  unfold zb_Machine_place_10
  exact sh_b_Machine_place_15  hs
theorem sh_f_Machine_place {σ0 : zS} {σ : zS} {x1 : Int32} {x2 : Int32} {x3 : Int32}  (hs : F75 σ0 σ) : zp (zf_Machine_place σ x1 x2 x3) (fun r => F75 σ0 r) := by
  unfold zf_Machine_place
  refine zp_ite (fun _ => ?_) fun _ => ?_
  ·
    exact sh_b_Machine_place_10  hs
  ·
    refine zp_ite (fun _ => ?_) fun _ => ?_
    ·
      exact sh_b_Machine_place_15  hs
    ·
      exact sh_b_Machine_place_10  hs
theorem sh_b_Machine_goTo_49 {σ0 : zS} {σ : zS} {s0 : Int32} {s1 : Int32} {s2 : Int32}  (hs : F75 σ0 σ) : zp (zb_Machine_goTo_49 σ s0 s1 s2) (fun r => F75 σ0 r) := by
  unfold zb_Machine_goTo_49
  refine zp_bind (zp_mono (sh_f_Machine_place  hs) fun r4 hr4 => ?_)
  exact zp_some hr4
theorem sh_b_Machine_goTo_40 {σ0 : zS} {σ : zS} {v3 : Int32} {s0 : Int32} {s1 : Int32}  (hs : F75 σ0 σ) : zp (zb_Machine_goTo_40 σ v3 s0 s1) (fun r => F75 σ0 r) := by
  unfold zb_Machine_goTo_40
  refine zp_ite (fun _ => ?_) fun _ => ?_
  ·
    exact sh_b_Machine_goTo_49  hs
  ·
    exact sh_b_Machine_goTo_49  hs
theorem sh_b_Machine_goTo_21 {σ0 : zS} {σ : zS} {v1 : Int32} {v2 : Int32} {s0 : Int32}  (hs : F75 σ0 σ) : zp (zb_Machine_goTo_21 σ v1 v2 s0) (fun r => F75 σ0 r) := by
  unfold zb_Machine_goTo_21
  refine zp_ite (fun _ => ?_) fun _ => ?_
  ·
    exact sh_b_Machine_goTo_40  hs
  ·
    refine zp_bind fun r5 _ => ?_
    exact sh_b_Machine_goTo_40  hs
theorem sh_b_Machine_goTo_16 {σ0 : zS} {σ : zS} {v1 : Int32} {v2 : Int32}  (hs : F75 σ0 σ) : zp (zb_Machine_goTo_16 σ v1 v2) (fun r => F75 σ0 r) := by
  unfold zb_Machine_goTo_16
  exact sh_b_Machine_goTo_21  hs
theorem sh_f_Machine_goTo {σ0 : zS} {σ : zS} {x1 : Int32} {x2 : Int32}  (hs : F75 σ0 σ) : zp (zf_Machine_goTo σ x1 x2) (fun r => F75 σ0 r) := by
  unfold zf_Machine_goTo
  refine zp_ite (fun _ => ?_) fun _ => ?_
  ·
    exact sh_b_Machine_goTo_16  hs
  ·
    refine zp_bind fun r6 _ => ?_
    refine zp_ite (fun _ => ?_) fun _ => ?_
    ·
      exact sh_b_Machine_goTo_21  hs
    ·
      exact sh_b_Machine_goTo_16  hs
theorem sh_f_Machine_startThread {σ0 : zS} {σ : zS} {x1 : Int32}  (hs : F75 σ0 σ) : zp (zf_Machine_startThread σ x1) (fun r => F75 σ0 r.2) := by
  unfold zf_Machine_startThread
  refine zp_bind fun r1 _ => ?_
  refine zp_ite (fun _ => ?_) fun _ => ?_
  ·
    refine zp_bind (zp_mono (sh_f_Machine_goTo  hs) fun r3 hr3 => ?_)
    exact zp_some hr3
  ·
    exact zp_some hs
theorem sh_b_Machine_signal_121 {σ0 : zS} {k49 : zS → Int32 → Int32 → Int32 → Int32 → Option (Int32 × zS)} {N : Nat} {σ : zS} {v3 : Int32} {v4 : Int32} {v5 : Int32} {v6 : Int32} (hk49 : ∀ (y0 : zS) (y1 : Int32) (y2 : Int32) (y3 : Int32) (y4 : Int32), F75 σ0 y0 → zp (k49 y0 y1 y2 y3 y4) (fun r => F75 σ0 r.2)) (hs : F75 σ0 σ) : zp (zb_Machine_signal_121 k49 N σ v3 v4 v5 v6) (fun r => F75 σ0 r.2) := by
  unfold zb_Machine_signal_121
  exact hk49 _ _ _ _ _ hs
theorem sh_b_Machine_signal_119 {σ0 : zS} {k49 : zS → Int32 → Int32 → Int32 → Int32 → Option (Int32 × zS)} {N : Nat} {σ : zS} {v3 : Int32} {v4 : Int32} {v6 : Int32} {s0 : Int32} (hk49 : ∀ (y0 : zS) (y1 : Int32) (y2 : Int32) (y3 : Int32) (y4 : Int32), F75 σ0 y0 → zp (k49 y0 y1 y2 y3 y4) (fun r => F75 σ0 r.2)) (hs : F75 σ0 σ) : zp (zb_Machine_signal_119 k49 N σ v3 v4 v6 s0) (fun r => F75 σ0 r.2) := by
  unfold zb_Machine_signal_119
  exact sh_b_Machine_signal_121 (hk49) hs
theorem sh_b_Machine_signal_49 {σ0 : zS} {N : Nat}  : ∀ (n : Nat) (σ : zS) (v3 : Int32) (v4 : Int32) (v5 : Int32) (v6 : Int32), F75 σ0 σ → zp (zb_Machine_signal_49 N n σ v3 v4 v5 v6) (fun r => F75 σ0 r.2) := by
  intro n
  induction n with
  | zero => intro _ _ _ _ _ _; exact zp_none
  | succ n ih =>
    intro σ v3 v4 v5 v6 hs
    rw [zb_Machine_signal_49]
    refine zp_ite (fun _ => ?_) fun _ => ?_
    ·
      exact zp_some hs
    ·
      refine zp_ite (fun _ => ?_) fun _ => ?_
      ·
        exact zp_some hs
      ·
        refine zp_bind fun r8 _ => ?_
        refine zp_ite (fun _ => ?_) fun _ => ?_
        ·
          exact sh_b_Machine_signal_121 (ih) hs
        ·
          refine zp_bind fun r10 _ => ?_
          refine zp_chk fun _ => ?_
          refine zp_ite (fun _ => ?_) fun _ => ?_
          ·
            exact sh_b_Machine_signal_121 (ih) hs
          ·
            refine zp_bind fun r13 _ => ?_
            refine zp_bind (zp_mono (sh_f_Machine_place  hs) fun r14 hr14 => ?_)
            refine zp_ite (fun _ => ?_) fun _ => ?_
            ·
              exact sh_b_Machine_signal_119 (ih) hr14
            ·
              exact sh_b_Machine_signal_119 (ih) hr14
theorem sh_b_Machine_signal_44 {σ0 : zS} {N : Nat} {σ : zS} {v3 : Int32} {v4 : Int32} {s0 : Int32}  (hs : F75 σ0 σ) : zp (zb_Machine_signal_44 N σ v3 v4 s0) (fun r => F75 σ0 r.2) := by
  unfold zb_Machine_signal_44
  exact sh_b_Machine_signal_49  _ _ _ _ _ _ hs
theorem sh_f_Machine_signal {σ0 : zS} {N : Nat} {σ : zS} {x1 : Int32} {x2 : Int32}  (hs : F75 σ0 σ) : zp (zf_Machine_signal N σ x1 x2) (fun r => F75 σ0 r.2) := by
  unfold zf_Machine_signal
  refine zp_chk fun _ => ?_
  refine zp_chk fun _ => ?_
  refine zp_bind fun r3 _ => ?_
  refine zp_ite (fun _ => ?_) fun _ => ?_
  ·
    refine zp_ite (fun _ => ?_) fun _ => ?_
    ·
      exact sh_b_Machine_signal_44  hs
    ·
      exact sh_b_Machine_signal_44  hs
  ·
    exact zp_some hs
theorem sh_b_Machine_work_150 {σ0 : zS} {σ : zS} {v4 : Int32} {v6 : Int32} {s0 : Int32} {s1 : Int32}  (hs : F75 σ0 σ) : zp (zb_Machine_work_150 σ v4 v6 s0 s1) (fun r => F75 σ0 r) := by
  unfold zb_Machine_work_150
  refine zp_ite (fun _ => ?_) fun _ => ?_
  ·
    exact zp_some hs
  ·
    refine zp_ite (fun _ => ?_) fun _ => ?_
    ·
      exact zp_some hs
    ·
      refine zp_chk fun _ => ?_
      refine zp_chk fun _ => ?_
      exact zp_some (F75.up (by decide) hs)
theorem sh_b_Machine_work_121 {σ0 : zS} {σ : zS} {v2 : Int32} {v3 : Int32} {v4 : Int32} {s0 : Int32}  (hs : F75 σ0 σ) : zp (zb_Machine_work_121 σ v2 v3 v4 s0) (fun r => F75 σ0 r) := by
  unfold zb_Machine_work_121
  refine zp_ite (fun _ => ?_) fun _ => ?_
  ·
    refine zp_chk fun _ => ?_
    exact sh_b_Machine_work_150  hs
  ·
    refine zp_chk fun _ => ?_
    exact sh_b_Machine_work_150  hs
theorem sh_b_Machine_work_109 {σ0 : zS} {σ : zS} {v1 : Int32} {v2 : Int32} {v3 : Int32} {v4 : Int32}  (hs : F75 σ0 σ) : zp (zb_Machine_work_109 σ v1 v2 v3 v4) (fun r => F75 σ0 r) := by
  unfold zb_Machine_work_109
  refine zp_ite (fun _ => ?_) fun _ => ?_
  ·
    exact sh_b_Machine_work_121  hs
  ·
    exact sh_b_Machine_work_121  hs
theorem sh_f_Machine_work {σ0 : zS} {σ : zS} {x1 : Int32} {x2 : Int32}  (hs : F75 σ0 σ) : zp (zf_Machine_work σ x1 x2) (fun r => F75 σ0 r) := by
  unfold zf_Machine_work
  refine zp_chk fun _ => ?_
  refine zp_chk fun _ => ?_
  refine zp_bind fun r3 _ => ?_
  refine zp_chk fun _ => ?_
  refine zp_bind fun r5 _ => ?_
  refine zp_ite (fun _ => ?_) fun _ => ?_
  ·
    refine zp_chk fun _ => ?_
    refine zp_ite (fun _ => ?_) fun _ => ?_
    ·
      refine zp_chk fun _ => ?_
      refine zp_ite (fun _ => ?_) fun _ => ?_
      ·
        exact sh_b_Machine_work_109  hs
      ·
        exact sh_b_Machine_work_109  hs
    ·
      exact sh_b_Machine_work_109  hs
  ·
    refine zp_chk fun _ => ?_
    refine zp_bind fun r20 _ => ?_
    exact sh_b_Machine_work_109  hs
theorem sh_b_Machine_move_317 {σ0 : zS} {N : Nat} {σ : zS} {v1 : Int32} {v6 : Int32}  (hs : F75 σ0 σ) : zp (zb_Machine_move_317 N σ v1 v6) (fun r => F75 σ0 r) := by
  unfold zb_Machine_move_317
  refine zp_bind (zp_mono (sh_f_Machine_goTo  hs) fun r28 hr28 => ?_)
  exact zp_some hr28
theorem sh_b_Machine_move_261 {σ0 : zS} {N : Nat} {σ : zS} {v1 : Int32} {v3 : Int32} {v5 : Int32} {v6 : Int32}  (hs : F75 σ0 σ) : zp (zb_Machine_move_261 N σ v1 v3 v5 v6) (fun r => F75 σ0 r) := by
  unfold zb_Machine_move_261
  refine zp_ite (fun _ => ?_) fun _ => ?_
  ·
    refine zp_bind fun r26 _ => ?_
    refine zp_ite (fun _ => ?_) fun _ => ?_
    ·
      exact sh_b_Machine_move_317  hs
    ·
      refine zp_chk fun _ => ?_
      refine zp_ite (fun _ => ?_) fun _ => ?_
      ·
        exact sh_b_Machine_move_317  hs
      ·
        refine zp_bind fun r31 _ => ?_
        refine zp_bind (zp_mono (sh_f_Machine_place  hs) fun r32 hr32 => ?_)
        exact zp_some hr32
  ·
    refine zp_bind fun r33 _ => ?_
    refine zp_bind (zp_mono (sh_f_Machine_place  hs) fun r34 hr34 => ?_)
    exact zp_some hr34
theorem sh_b_Machine_move_216 {σ0 : zS} {N : Nat} {σ : zS} {v1 : Int32} {v3 : Int32} {v5 : Int32} {s0 : Int32}  (hs : F75 σ0 σ) : zp (zb_Machine_move_216 N σ v1 v3 v5 s0) (fun r => F75 σ0 r) := by
  unfold zb_Machine_move_216
  exact sh_b_Machine_move_261  hs
theorem sh_b_Machine_move_116 {σ0 : zS} {N : Nat} {σ : zS} {v1 : Int32} {v3 : Int32} {v5 : Int32} {v6 : Int32} {s0 : Int32}  (hs : F75 σ0 σ) : zp (zb_Machine_move_116 N σ v1 v3 v5 v6 s0) (fun r => F75 σ0 r) := by
  unfold zb_Machine_move_116
  refine zp_ite (fun _ => ?_) fun _ => ?_
  ·
    refine zp_bind (zp_mono (sh_f_Machine_work  hs) fun r49 hr49 => ?_)
    exact sh_b_Machine_move_261  hr49
  ·
    refine zp_ite (fun _ => ?_) fun _ => ?_
    ·
      refine zp_bind (zp_mono (sh_f_Machine_work  hs) fun r48 hr48 => ?_)
      exact sh_b_Machine_move_261  hr48
    ·
      refine zp_ite (fun _ => ?_) fun _ => ?_
      ·
        refine zp_bind (zp_mono (sh_f_Machine_work  hs) fun r47 hr47 => ?_)
        exact sh_b_Machine_move_261  hr47
      ·
        refine zp_ite (fun _ => ?_) fun _ => ?_
        ·
          exact sh_b_Machine_move_261  hs
        ·
          refine zp_ite (fun _ => ?_) fun _ => ?_
          ·
            exact sh_b_Machine_move_261  hs
          ·
            refine zp_ite (fun _ => ?_) fun _ => ?_
            ·
              refine zp_bind fun r44 _ => ?_
              refine zp_ite (fun _ => ?_) fun _ => ?_
              ·
                refine zp_chk fun _ => ?_
                exact sh_b_Machine_move_216  hs
              ·
                exact sh_b_Machine_move_216  hs
            ·
              refine zp_ite (fun _ => ?_) fun _ => ?_
              ·
                refine zp_bind fun r41 _ => ?_
                refine zp_ite (fun _ => ?_) fun _ => ?_
                ·
                  refine zp_chk fun _ => ?_
                  exact sh_b_Machine_move_216  hs
                ·
                  exact sh_b_Machine_move_216  hs
              ·
                refine zp_ite (fun _ => ?_) fun _ => ?_
                ·
                  refine zp_bind (zp_mono (sh_f_Machine_signal  hs) fun r40 hr40 => ?_)
                  exact sh_b_Machine_move_261  hr40
                ·
                  refine zp_ite (fun _ => ?_) fun _ => ?_
                  ·
                    refine zp_bind (zp_mono (sh_f_Machine_signal  hs) fun r39 hr39 => ?_)
                    exact sh_b_Machine_move_261  hr39
                  ·
                    refine zp_ite (fun _ => ?_) fun _ => ?_
                    ·
                      refine zp_bind (zp_mono (sh_f_Machine_signal  hs) fun r38 hr38 => ?_)
                      exact sh_b_Machine_move_261  hr38
                    ·
                      refine zp_ite (fun _ => ?_) fun _ => ?_
                      ·
                        refine zp_chk fun _ => ?_
                        refine zp_bind (zp_mono (sh_f_Machine_startThread  hs) fun r37 hr37 => ?_)
                        exact sh_b_Machine_move_261  hr37
                      ·
                        refine zp_ite (fun _ => ?_) fun _ => ?_
                        ·
                          exact sh_b_Machine_move_261  hs
                        ·
                          refine zp_ite (fun _ => ?_) fun _ => ?_
                          ·
                            refine zp_bind fun r35 _ => ?_
                            exact sh_b_Machine_move_261  hs
                          ·
                            exact sh_b_Machine_move_261  hs
theorem sh_b_Machine_move_39 {σ0 : zS} {N : Nat} {σ : zS} {v1 : Int32} {v3 : Int32} {s0 : Int32}  (hs : F75 σ0 σ) : zp (zb_Machine_move_39 N σ v1 v3 s0) (fun r => F75 σ0 r) := by
  unfold zb_Machine_move_39
  refine zp_chk fun _ => ?_
  refine zp_chk fun _ => ?_
  refine zp_chk fun _ => ?_
  refine zp_bind fun r9 _ => ?_
  refine zp_ite (fun _ => ?_) fun _ => ?_
  ·
    refine zp_chk fun _ => ?_
    exact sh_b_Machine_move_116  (F75.up (by decide) (F75.cp (by decide) hs))
  ·
    exact sh_b_Machine_move_116  (F75.up (by decide) (F75.cp (by decide) hs))
theorem sh_b_Machine_move_38 {σ0 : zS} {N : Nat} {σ : zS} {v1 : Int32} {v3 : Int32}  (hs : F75 σ0 σ) : zp (zb_Machine_move_38 N σ v1 v3) (fun r => F75 σ0 r) := by
  unfold zb_Machine_move_38
  exact sh_b_Machine_move_39  hs
theorem sh_f_Machine_move {σ0 : zS} {N : Nat} {σ : zS} {x1 : Int32} {x2 : Int32}  (hs : F75 σ0 σ) : zp (zf_Machine_move N σ x1 x2) (fun r => F75 σ0 r) := by
  unfold zf_Machine_move
  refine zp_ite (fun _ => ?_) fun _ => ?_
  ·
    exact zp_some hs
  ·
    refine zp_ite (fun _ => ?_) fun _ => ?_
    ·
      refine zp_bind fun r3 _ => ?_
      refine zp_ite (fun _ => ?_) fun _ => ?_
      ·
        exact sh_b_Machine_move_38  hs
      ·
        refine zp_chk fun _ => ?_
        refine zp_ite (fun _ => ?_) fun _ => ?_
        ·
          exact sh_b_Machine_move_38  hs
        ·
          exact sh_b_Machine_move_39  hs
    ·
      exact zp_some hs
theorem sh_b_Space_exploreFrom_95 {σ0 : zS} {k20 : zS → Int32 → Int32 → Int32 → Int32 → Int32 → Option (Int32 × zS)} {N : Nat} {σ : zS} {v1 : Int32} {v2 : Int32} {v3 : Int32} {v4 : Int32} {v5 : Int32} (hk20 : ∀ (y0 : zS) (y1 : Int32) (y2 : Int32) (y3 : Int32) (y4 : Int32) (y5 : Int32), F75 σ0 y0 → zp (k20 y0 y1 y2 y3 y4 y5) (fun r => F75 σ0 r.2)) (hs : F75 σ0 σ) : zp (zb_Space_exploreFrom_95 k20 N σ v1 v2 v3 v4 v5) (fun r => F75 σ0 r.2) := by
  unfold zb_Space_exploreFrom_95
  exact hk20 _ _ _ _ _ _ hs
theorem sh_b_Space_exploreFrom_48 {σ0 : zS} {k20 : zS → Int32 → Int32 → Int32 → Int32 → Int32 → Option (Int32 × zS)} {N : Nat} {σ : zS} {v1 : Int32} {v2 : Int32} {v3 : Int32} {v4 : Int32} {v5 : Int32} {s0 : Int32} (hk20 : ∀ (y0 : zS) (y1 : Int32) (y2 : Int32) (y3 : Int32) (y4 : Int32) (y5 : Int32), F75 σ0 y0 → zp (k20 y0 y1 y2 y3 y4 y5) (fun r => F75 σ0 r.2)) (hs : F75 σ0 σ) : zp (zb_Space_exploreFrom_48 k20 N σ v1 v2 v3 v4 v5 s0) (fun r => F75 σ0 r.2) := by
  unfold zb_Space_exploreFrom_48
  refine zp_ite (fun _ => ?_) fun _ => ?_
  ·
    exact sh_b_Space_exploreFrom_95 (hk20) hs
  ·
    refine zp_bind fun r9 _ => ?_
    refine zp_ite (fun _ => ?_) fun _ => ?_
    ·
      exact sh_b_Space_exploreFrom_95 (hk20) hs
    ·
      refine zp_bind (zp_mono (sh_f_Machine_move  hs) fun r11 hr11 => ?_)
      refine zp_bind (zp_mono (sh_f_Space_note  hr11) fun r12 hr12 => ?_)
      refine zp_ite (fun _ => ?_) fun _ => ?_
      ·
        exact sh_b_Space_exploreFrom_95 (hk20) hr12
      ·
        exact zp_some hr12
theorem sh_b_Space_exploreFrom_43 {σ0 : zS} {k20 : zS → Int32 → Int32 → Int32 → Int32 → Int32 → Option (Int32 × zS)} {N : Nat} {σ : zS} {v1 : Int32} {v2 : Int32} {v3 : Int32} {v4 : Int32} {v5 : Int32} (hk20 : ∀ (y0 : zS) (y1 : Int32) (y2 : Int32) (y3 : Int32) (y4 : Int32) (y5 : Int32), F75 σ0 y0 → zp (k20 y0 y1 y2 y3 y4 y5) (fun r => F75 σ0 r.2)) (hs : F75 σ0 σ) : zp (zb_Space_exploreFrom_43 k20 N σ v1 v2 v3 v4 v5) (fun r => F75 σ0 r.2) := by
  unfold zb_Space_exploreFrom_43
  exact sh_b_Space_exploreFrom_48 (hk20) hs
theorem sh_b_Space_exploreFrom_20 {σ0 : zS} {N : Nat}  : ∀ (n : Nat) (σ : zS) (v1 : Int32) (v2 : Int32) (v3 : Int32) (v4 : Int32) (v5 : Int32), F75 σ0 σ → zp (zb_Space_exploreFrom_20 N n σ v1 v2 v3 v4 v5) (fun r => F75 σ0 r.2) := by
  intro n
  induction n with
  | zero => intro _ _ _ _ _ _ _; exact zp_none
  | succ n ih =>
    intro σ v1 v2 v3 v4 v5 hs
    rw [zb_Space_exploreFrom_20]
    refine zp_ite (fun _ => ?_) fun _ => ?_
    ·
      refine zp_bind fun r4 _ => ?_
      refine zp_ite (fun _ => ?_) fun _ => ?_
      ·
        exact zp_some hs
      ·
        refine zp_chk fun _ => ?_
        exact zp_some (F75.up (by decide) hs)
    ·
      refine zp_ite (fun _ => ?_) fun _ => ?_
      ·
        exact sh_b_Space_exploreFrom_43 (ih) hs
      ·
        refine zp_ite (fun _ => ?_) fun _ => ?_
        ·
          exact sh_b_Space_exploreFrom_48 (ih) hs
        ·
          exact sh_b_Space_exploreFrom_43 (ih) hs
theorem sh_f_Space_exploreFrom {σ0 : zS} {N : Nat} {σ : zS} {x1 : Int32} {x2 : Int32}  (hs : F75 σ0 σ) : zp (zf_Space_exploreFrom N σ x1 x2) (fun r => F75 σ0 r.2) := by
  unfold zf_Space_exploreFrom
  refine zp_bind (zp_mono (sh_f_Space_load  hs) fun r1 hr1 => ?_)
  refine zp_bind fun r2 _ => ?_
  exact sh_b_Space_exploreFrom_20  _ _ _ _ _ _ _ hr1
theorem sh_b_Space_explore_28 {σ0 : zS} {N : Nat}  : ∀ (n : Nat) (σ : zS) (v1 : Int32) (v2 : Int32) (v3 : Int32), F75 σ0 σ → zp (zb_Space_explore_28 N n σ v1 v2 v3) (fun r => F75 σ0 r.2) := by
  intro n
  induction n with
  | zero => intro _ _ _ _ _; exact zp_none
  | succ n ih =>
    intro σ v1 v2 v3 hs
    rw [zb_Space_explore_28]
    refine zp_ite (fun _ => ?_) fun _ => ?_
    ·
      refine zp_chk fun _ => ?_
      exact zp_some hs
    ·
      refine zp_ite (fun _ => ?_) fun _ => ?_
      ·
        refine zp_chk fun _ => ?_
        exact zp_some hs
      ·
        refine zp_ite (fun _ => ?_) fun _ => ?_
        ·
          refine zp_chk fun _ => ?_
          exact zp_some hs
        ·
          refine zp_bind (zp_mono (sh_f_Space_exploreFrom  hs) fun r10 hr10 => ?_)
          exact ih _ _ _ _ hr10
theorem sh_f_Space_explore {σ0 : zS} {N : Nat} {σ : zS} {x1 : Int32}  (hs : F75 σ0 σ) : zp (zf_Space_explore N σ x1) (fun r => F75 σ0 r.2) := by
  unfold zf_Space_explore
  refine zp_bind (zp_mono (sh_f_Arrays_fill_c3  (F75.up (by decide) hs)) fun r1 hr1 => ?_)
  refine zp_bind (zp_mono (sh_f_Machine_setFirst  hr1) fun r2 hr2 => ?_)
  refine zp_bind (zp_mono (sh_f_Space_note  hr2) fun r3 hr3 => ?_)
  exact sh_b_Space_explore_28  _ _ _ _ _ hr3
theorem sh_f_Numbers_clear {σ0 : zS} {σ : zS}  (hs : F75 σ0 σ) : zp (zf_Numbers_clear σ) (fun r => F75 σ0 r) := by
  unfold zf_Numbers_clear
  exact zp_some (F75.up (by decide) hs)
theorem sh_f_Numbers_clear_c1 {σ0 : zS} {σ : zS}  (hs : F75 σ0 σ) : zp (zf_Numbers_clear_c1 σ) (fun r => F75 σ0 r) := by
  unfold zf_Numbers_clear_c1
  exact zp_some (F75.up (by decide) hs)
theorem sh_f_Numbers_clear_c2 {σ0 : zS} {σ : zS}  (hs : F75 σ0 σ) : zp (zf_Numbers_clear_c2 σ) (fun r => F75 σ0 r) := by
  unfold zf_Numbers_clear_c2
  exact zp_some (F75.up (by decide) hs)
theorem sh_b_Arrays_fill_c5_5 {σ0 : zS} {N : Nat}  : ∀ (n : Nat) (σ : zS) (v1 : Int32) (v2 : Int32) (v3 : Int32), F75 σ0 σ → zp (zb_Arrays_fill_c5_5 N n σ v1 v2 v3) (fun r => F75 σ0 r) := by
  intro n
  induction n with
  | zero => intro _ _ _ _ _; exact zp_none
  | succ n ih =>
    intro σ v1 v2 v3 hs
    rw [zb_Arrays_fill_c5_5]
    refine zp_ite (fun _ => ?_) fun _ => ?_
    ·
      exact zp_some hs
    ·
      refine zp_chk fun _ => ?_
      exact ih _ _ _ _ (F75.up (by decide) hs)
theorem sh_f_Arrays_fill_c5 {σ0 : zS} {N : Nat} {σ : zS} {x2 : Int32}  (hs : F75 σ0 σ) : zp (zf_Arrays_fill_c5 N σ x2) (fun r => F75 σ0 r) := by
  unfold zf_Arrays_fill_c5
  exact sh_b_Arrays_fill_c5_5  _ _ _ _ _ hs
theorem sh_f_Numbers_clear_c3 {σ0 : zS} {σ : zS}  (hs : F75 σ0 σ) : zp (zf_Numbers_clear_c3 σ) (fun r => F75 σ0 r) := by
  unfold zf_Numbers_clear_c3
  exact zp_some (F75.up (by decide) hs)
theorem sh_f_Numbers_clear_c4 {σ0 : zS} {σ : zS}  (hs : F75 σ0 σ) : zp (zf_Numbers_clear_c4 σ) (fun r => F75 σ0 r) := by
  unfold zf_Numbers_clear_c4
  exact zp_some (F75.up (by decide) hs)
theorem sh_f_Numbers_add {σ0 : zS} {σ : zS} {x1 : Int32}  (hs : F75 σ0 σ) : zp (zf_Numbers_add σ x1) (fun r => F75 σ0 r) := by
  unfold zf_Numbers_add
  refine zp_ite (fun _ => ?_) fun _ => ?_
  ·
    exact zp_some hs
  ·
    refine zp_ite (fun _ => ?_) fun _ => ?_
    ·
      exact zp_some hs
    ·
      refine zp_chk fun _ => ?_
      exact zp_some (F75.up (by decide) (F75.up (by decide) hs))
theorem sh_f_Numbers_add_c1 {σ0 : zS} {σ : zS} {x1 : Int32}  (hs : F75 σ0 σ) : zp (zf_Numbers_add_c1 σ x1) (fun r => F75 σ0 r) := by
  unfold zf_Numbers_add_c1
  refine zp_ite (fun _ => ?_) fun _ => ?_
  ·
    exact zp_some hs
  ·
    refine zp_ite (fun _ => ?_) fun _ => ?_
    ·
      exact zp_some hs
    ·
      refine zp_chk fun _ => ?_
      exact zp_some (F75.up (by decide) (F75.up (by decide) hs))
theorem sh_b_Findings_listRaces_56 {σ0 : zS} {k16 : zS → Int32 → Option (zS)} {N : Nat} {σ : zS} {v1 : Int32} (hk16 : ∀ (y0 : zS) (y1 : Int32), F75 σ0 y0 → zp (k16 y0 y1) (fun r => F75 σ0 r)) (hs : F75 σ0 σ) : zp (zb_Findings_listRaces_56 k16 N σ v1) (fun r => F75 σ0 r) := by
  unfold zb_Findings_listRaces_56
  exact hk16 _ _ hs
theorem sh_b_Findings_listRaces_16 {σ0 : zS} {N : Nat}  : ∀ (n : Nat) (σ : zS) (v1 : Int32), F75 σ0 σ → zp (zb_Findings_listRaces_16 N n σ v1) (fun r => F75 σ0 r) := by
  intro n
  induction n with
  | zero => intro _ _ _; exact zp_none
  | succ n ih =>
    intro σ v1 hs
    rw [zb_Findings_listRaces_16]
    refine zp_ite (fun _ => ?_) fun _ => ?_
    ·
      exact zp_some hs
    ·
      refine zp_chk fun _ => ?_
      refine zp_ite (fun _ => ?_) fun _ => ?_
      ·
        exact sh_b_Findings_listRaces_56 (ih) hs
      ·
        refine zp_bind (zp_mono (sh_f_Numbers_add  hs) fun r6 hr6 => ?_)
        refine zp_chk fun _ => ?_
        refine zp_bind (zp_mono (sh_f_Numbers_add_c1  hr6) fun r8 hr8 => ?_)
        exact sh_b_Findings_listRaces_56 (ih) hr8
theorem sh_f_Findings_listRaces {σ0 : zS} {N : Nat} {σ : zS}  (hs : F75 σ0 σ) : zp (zf_Findings_listRaces N σ) (fun r => F75 σ0 r) := by
  unfold zf_Findings_listRaces
  refine zp_bind (zp_mono (sh_f_Numbers_clear_c3  hs) fun r1 hr1 => ?_)
  refine zp_bind (zp_mono (sh_f_Numbers_clear_c4  hr1) fun r2 hr2 => ?_)
  exact sh_b_Findings_listRaces_16  _ _ _ hr2
theorem sh_f_Numbers_clear_c5 {σ0 : zS} {σ : zS}  (hs : F75 σ0 σ) : zp (zf_Numbers_clear_c5 σ) (fun r => F75 σ0 r) := by
  unfold zf_Numbers_clear_c5
  exact zp_some (F75.up (by decide) hs)
theorem sh_f_Numbers_clear_c6 {σ0 : zS} {σ : zS}  (hs : F75 σ0 σ) : zp (zf_Numbers_clear_c6 σ) (fun r => F75 σ0 r) := by
  unfold zf_Numbers_clear_c6
  exact zp_some (F75.up (by decide) hs)
theorem sh_b_Arrays_fill_c6_5 {σ0 : zS} {N : Nat}  : ∀ (n : Nat) (σ : zS) (v1 : Int32) (v2 : Int32) (v3 : Int32), F75 σ0 σ → zp (zb_Arrays_fill_c6_5 N n σ v1 v2 v3) (fun r => F75 σ0 r) := by
  intro n
  induction n with
  | zero => intro _ _ _ _ _; exact zp_none
  | succ n ih =>
    intro σ v1 v2 v3 hs
    rw [zb_Arrays_fill_c6_5]
    refine zp_ite (fun _ => ?_) fun _ => ?_
    ·
      exact zp_some hs
    ·
      refine zp_chk fun _ => ?_
      exact ih _ _ _ _ (F75.up (by decide) hs)
theorem sh_f_Arrays_fill_c6 {σ0 : zS} {N : Nat} {σ : zS} {x2 : Int32}  (hs : F75 σ0 σ) : zp (zf_Arrays_fill_c6 N σ x2) (fun r => F75 σ0 r) := by
  unfold zf_Arrays_fill_c6
  exact sh_b_Arrays_fill_c6_5  _ _ _ _ _ hs
theorem sh_f_Numbers_add_c2 {σ0 : zS} {σ : zS} {x1 : Int32}  (hs : F75 σ0 σ) : zp (zf_Numbers_add_c2 σ x1) (fun r => F75 σ0 r) := by
  unfold zf_Numbers_add_c2
  refine zp_ite (fun _ => ?_) fun _ => ?_
  ·
    exact zp_some hs
  ·
    refine zp_ite (fun _ => ?_) fun _ => ?_
    ·
      exact zp_some hs
    ·
      refine zp_chk fun _ => ?_
      exact zp_some (F75.up (by decide) (F75.up (by decide) hs))
theorem sh_f_Numbers_add_c3 {σ0 : zS} {σ : zS} {x1 : Int32}  (hs : F75 σ0 σ) : zp (zf_Numbers_add_c3 σ x1) (fun r => F75 σ0 r) := by
  unfold zf_Numbers_add_c3
  refine zp_ite (fun _ => ?_) fun _ => ?_
  ·
    exact zp_some hs
  ·
    refine zp_ite (fun _ => ?_) fun _ => ?_
    ·
      exact zp_some hs
    ·
      refine zp_chk fun _ => ?_
      exact zp_some (F75.up (by decide) (F75.up (by decide) hs))
theorem sh_f_Outcomes_note {σ0 : zS} {N : Nat} {σ : zS} {x1 : Int32} {x2 : Int32}  (hs : F75 σ0 σ) : zp (zf_Outcomes_note N σ x1 x2) (fun r => F75 σ0 r) := by
  unfold zf_Outcomes_note
  refine zp_bind fun r1 _ => ?_
  refine zp_chk fun _ => ?_
  refine zp_ite (fun _ => ?_) fun _ => ?_
  ·
    exact zp_some hs
  ·
    refine zp_bind (zp_mono (sh_f_Numbers_add_c2  hs) fun r4 hr4 => ?_)
    refine zp_bind (zp_mono (sh_f_Numbers_add_c3  hr4) fun r5 hr5 => ?_)
    refine zp_chk fun _ => ?_
    exact zp_some (F75.up (by decide) hr5)
theorem sh_b_Outcomes_gather_57 {σ0 : zS} {k24 : zS → Int32 → Option (zS)} {N : Nat} {σ : zS} {v2 : Int32} (hk24 : ∀ (y0 : zS) (y1 : Int32), F75 σ0 y0 → zp (k24 y0 y1) (fun r => F75 σ0 r)) (hs : F75 σ0 σ) : zp (zb_Outcomes_gather_57 k24 N σ v2) (fun r => F75 σ0 r) := by
  unfold zb_Outcomes_gather_57
  exact hk24 _ _ hs
theorem sh_b_Outcomes_gather_24 {σ0 : zS} {N : Nat}  : ∀ (n : Nat) (σ : zS) (v2 : Int32), F75 σ0 σ → zp (zb_Outcomes_gather_24 N n σ v2) (fun r => F75 σ0 r) := by
  intro n
  induction n with
  | zero => intro _ _ _; exact zp_none
  | succ n ih =>
    intro σ v2 hs
    rw [zb_Outcomes_gather_24]
    refine zp_ite (fun _ => ?_) fun _ => ?_
    ·
      exact zp_some hs
    ·
      refine zp_bind fun r5 _ => ?_
      refine zp_ite (fun _ => ?_) fun _ => ?_
      ·
        exact sh_b_Outcomes_gather_57 (ih) hs
      ·
        refine zp_bind (zp_mono (sh_f_Space_load  hs) fun r7 hr7 => ?_)
        refine zp_bind fun r8 _ => ?_
        refine zp_bind (zp_mono (sh_f_Outcomes_note  hr7) fun r9 hr9 => ?_)
        exact sh_b_Outcomes_gather_57 (ih) hr9
theorem sh_f_Outcomes_gather {σ0 : zS} {N : Nat} {σ : zS}  (hs : F75 σ0 σ) : zp (zf_Outcomes_gather N σ) (fun r => F75 σ0 r) := by
  unfold zf_Outcomes_gather
  refine zp_bind (zp_mono (sh_f_Numbers_clear_c5  hs) fun r1 hr1 => ?_)
  refine zp_bind (zp_mono (sh_f_Numbers_clear_c6  hr1) fun r2 hr2 => ?_)
  refine zp_bind (zp_mono (sh_f_Arrays_fill_c6  hr2) fun r3 hr3 => ?_)
  exact sh_b_Outcomes_gather_24  _ _ _ hr3
theorem sh_f_Findings_noteRace {σ0 : zS} {σ : zS} {x1 : Int32} {x2 : Int32} {x3 : Int32}  (hs : F75 σ0 σ) : zp (zf_Findings_noteRace σ x1 x2 x3) (fun r => F75 σ0 r) := by
  unfold zf_Findings_noteRace
  refine zp_bind fun r1 _ => ?_
  refine zp_ite (fun _ => ?_) fun _ => ?_
  ·
    exact zp_some hs
  ·
    refine zp_ite (fun _ => ?_) fun _ => ?_
    ·
      exact zp_some hs
    ·
      refine zp_ite (fun _ => ?_) fun _ => ?_
      ·
        exact zp_some hs
      ·
        refine zp_chk fun _ => ?_
        refine zp_ite (fun _ => ?_) fun _ => ?_
        ·
          exact zp_some hs
        ·
          refine zp_chk fun _ => ?_
          exact zp_some (F75.up (by decide) hs)
theorem sh_b_Findings_noteRaces_83 {σ0 : zS} {k17 : zS → Int32 → Int32 → Int32 → Option (zS)} {N : Nat} {σ : zS} {v1 : Int32} {v2 : Int32} {v3 : Int32} (hk17 : ∀ (y0 : zS) (y1 : Int32) (y2 : Int32) (y3 : Int32), F75 σ0 y0 → zp (k17 y0 y1 y2 y3) (fun r => F75 σ0 r)) (hs : F75 σ0 σ) : zp (zb_Findings_noteRaces_83 k17 N σ v1 v2 v3) (fun r => F75 σ0 r) := by
  unfold zb_Findings_noteRaces_83
  exact hk17 _ _ _ _ hs
theorem sh_b_Findings_noteRaces_17 {σ0 : zS} {k2 : zS → Int32 → Int32 → Option (zS)} {N : Nat} (hk2 : ∀ (y0 : zS) (y1 : Int32) (y2 : Int32), F75 σ0 y0 → zp (k2 y0 y1 y2) (fun r => F75 σ0 r)) : ∀ (n : Nat) (σ : zS) (v1 : Int32) (v2 : Int32) (v3 : Int32), F75 σ0 σ → zp (zb_Findings_noteRaces_17 k2 N n σ v1 v2 v3) (fun r => F75 σ0 r) := by
  intro n
  induction n with
  | zero => intro _ _ _ _ _; exact zp_none
  | succ n ih =>
    intro σ v1 v2 v3 hs
    rw [zb_Findings_noteRaces_17]
    refine zp_ite (fun _ => ?_) fun _ => ?_
    ·
      exact hk2 _ _ _ hs
    ·
      refine zp_bind fun r3 _ => ?_
      refine zp_ite (fun _ => ?_) fun _ => ?_
      ·
        exact sh_b_Findings_noteRaces_83 (ih) hs
      ·
        refine zp_bind fun r5 _ => ?_
        refine zp_ite (fun _ => ?_) fun _ => ?_
        ·
          exact sh_b_Findings_noteRaces_83 (ih) hs
        ·
          refine zp_bind fun r7 _ => ?_
          refine zp_bind fun r8 _ => ?_
          refine zp_bind (zp_mono (sh_f_Findings_noteRace  hs) fun r9 hr9 => ?_)
          exact sh_b_Findings_noteRaces_83 (ih) hr9
theorem sh_b_Findings_noteRaces_2 {σ0 : zS} {N : Nat}  : ∀ (n : Nat) (σ : zS) (v1 : Int32) (v2 : Int32), F75 σ0 σ → zp (zb_Findings_noteRaces_2 N n σ v1 v2) (fun r => F75 σ0 r) := by
  intro n
  induction n with
  | zero => intro _ _ _ _; exact zp_none
  | succ n ih =>
    intro σ v1 v2 hs
    rw [zb_Findings_noteRaces_2]
    refine zp_ite (fun _ => ?_) fun _ => ?_
    ·
      exact zp_some hs
    ·
      exact sh_b_Findings_noteRaces_17 (ih) _ _ _ _ _ hs
theorem sh_f_Findings_noteRaces {σ0 : zS} {N : Nat} {σ : zS} {x1 : Int32}  (hs : F75 σ0 σ) : zp (zf_Findings_noteRaces N σ x1) (fun r => F75 σ0 r) := by
  unfold zf_Findings_noteRaces
  exact sh_b_Findings_noteRaces_2  _ _ _ _ hs
theorem sh_f_Numbers_add_c4 {σ0 : zS} {σ : zS} {x1 : Int32}  (hs : F75 σ0 σ) : zp (zf_Numbers_add_c4 σ x1) (fun r => F75 σ0 r) := by
  unfold zf_Numbers_add_c4
  refine zp_ite (fun _ => ?_) fun _ => ?_
  ·
    exact zp_some hs
  ·
    refine zp_ite (fun _ => ?_) fun _ => ?_
    ·
      exact zp_some hs
    ·
      refine zp_chk fun _ => ?_
      exact zp_some (F75.up (by decide) (F75.up (by decide) hs))
theorem sh_f_Numbers_add_c5 {σ0 : zS} {σ : zS} {x1 : Int32}  (hs : F75 σ0 σ) : zp (zf_Numbers_add_c5 σ x1) (fun r => F75 σ0 r) := by
  unfold zf_Numbers_add_c5
  refine zp_ite (fun _ => ?_) fun _ => ?_
  ·
    exact zp_some hs
  ·
    refine zp_ite (fun _ => ?_) fun _ => ?_
    ·
      exact zp_some hs
    ·
      refine zp_chk fun _ => ?_
      exact zp_some (F75.up (by decide) (F75.up (by decide) hs))
theorem sh_f_Numbers_add_c6 {σ0 : zS} {σ : zS} {x1 : Int32}  (hs : F75 σ0 σ) : zp (zf_Numbers_add_c6 σ x1) (fun r => F75 σ0 r) := by
  unfold zf_Numbers_add_c6
  refine zp_ite (fun _ => ?_) fun _ => ?_
  ·
    exact zp_some hs
  ·
    refine zp_ite (fun _ => ?_) fun _ => ?_
    ·
      exact zp_some hs
    ·
      refine zp_chk fun _ => ?_
      exact zp_some (F75.up (by decide) (F75.up (by decide) hs))
theorem sh_b_Findings_gather_97 {σ0 : zS} {k31 : zS → Int32 → Option (zS)} {N : Nat} {σ : zS} {v2 : Int32} (hk31 : ∀ (y0 : zS) (y1 : Int32), F75 σ0 y0 → zp (k31 y0 y1) (fun r => F75 σ0 r)) (hs : F75 σ0 σ) : zp (zb_Findings_gather_97 k31 N σ v2) (fun r => F75 σ0 r) := by
  unfold zb_Findings_gather_97
  refine zp_bind (zp_mono (sh_f_Findings_noteRaces  hs) fun r13 hr13 => ?_)
  exact hk31 _ _ hr13
theorem sh_b_Findings_gather_91_1 {σ0 : zS} {k31 : zS → Int32 → Option (zS)} {N : Nat} {σ : zS} {v2 : Int32} (hk31 : ∀ (y0 : zS) (y1 : Int32), F75 σ0 y0 → zp (k31 y0 y1) (fun r => F75 σ0 r)) (hs : F75 σ0 σ) : zp (zb_Findings_gather_91_1 k31 N σ v2) (fun r => F75 σ0 r) := by
  unfold zb_Findings_gather_91_1
  refine zp_bind (zp_mono (sh_f_Numbers_add_c5  hs) fun r17 hr17 => ?_)
  exact sh_b_Findings_gather_97 (hk31) hr17
theorem sh_b_Findings_gather_91 {σ0 : zS} {k31 : zS → Int32 → Option (zS)} {N : Nat} {σ : zS} {v2 : Int32} (hk31 : ∀ (y0 : zS) (y1 : Int32), F75 σ0 y0 → zp (k31 y0 y1) (fun r => F75 σ0 r)) (hs : F75 σ0 σ) : zp (zb_Findings_gather_91 k31 N σ v2) (fun r => F75 σ0 r) := by
  unfold zb_Findings_gather_91
  refine zp_bind (zp_mono (sh_f_Numbers_add_c4  hs) fun r16 hr16 => ?_)
  exact sh_b_Findings_gather_97 (hk31) hr16
theorem sh_b_Findings_gather_62 {σ0 : zS} {k31 : zS → Int32 → Option (zS)} {N : Nat} {σ : zS} {v2 : Int32} (hk31 : ∀ (y0 : zS) (y1 : Int32), F75 σ0 y0 → zp (k31 y0 y1) (fun r => F75 σ0 r)) (hs : F75 σ0 σ) : zp (zb_Findings_gather_62 k31 N σ v2) (fun r => F75 σ0 r) := by
  unfold zb_Findings_gather_62
  refine zp_bind fun r11 _ => ?_
  refine zp_ite (fun _ => ?_) fun _ => ?_
  ·
    exact sh_b_Findings_gather_97 (hk31) hs
  ·
    refine zp_bind fun r14 _ => ?_
    refine zp_ite (fun _ => ?_) fun _ => ?_
    ·
      exact sh_b_Findings_gather_91 (hk31) hs
    ·
      exact sh_b_Findings_gather_91_1 (hk31) hs
theorem sh_b_Findings_gather_31 {σ0 : zS} {N : Nat}  : ∀ (n : Nat) (σ : zS) (v2 : Int32), F75 σ0 σ → zp (zb_Findings_gather_31 N n σ v2) (fun r => F75 σ0 r) := by
  intro n
  induction n with
  | zero => intro _ _ _; exact zp_none
  | succ n ih =>
    intro σ v2 hs
    rw [zb_Findings_gather_31]
    refine zp_ite (fun _ => ?_) fun _ => ?_
    ·
      refine zp_bind (zp_mono (sh_f_Findings_listRaces  hs) fun r6 hr6 => ?_)
      refine zp_bind (zp_mono (sh_f_Outcomes_gather  hr6) fun r7 hr7 => ?_)
      exact zp_some hr7
    ·
      refine zp_bind (zp_mono (sh_f_Space_load  hs) fun r8 hr8 => ?_)
      refine zp_bind fun r9 _ => ?_
      refine zp_ite (fun _ => ?_) fun _ => ?_
      ·
        exact sh_b_Findings_gather_62 (ih) hr8
      ·
        refine zp_bind (zp_mono (sh_f_Numbers_add_c6  hr8) fun r18 hr18 => ?_)
        exact sh_b_Findings_gather_62 (ih) hr18
theorem sh_f_Findings_gather {σ0 : zS} {N : Nat} {σ : zS}  (hs : F75 σ0 σ) : zp (zf_Findings_gather N σ) (fun r => F75 σ0 r) := by
  unfold zf_Findings_gather
  refine zp_bind (zp_mono (sh_f_Numbers_clear  hs) fun r1 hr1 => ?_)
  refine zp_bind (zp_mono (sh_f_Numbers_clear_c1  hr1) fun r2 hr2 => ?_)
  refine zp_bind (zp_mono (sh_f_Numbers_clear_c2  hr2) fun r3 hr3 => ?_)
  refine zp_bind (zp_mono (sh_f_Arrays_fill_c5  hr3) fun r4 hr4 => ?_)
  exact sh_b_Findings_gather_31  _ _ _ hr4
theorem sh_b_X_run_57 {σ0 : zS} {N : Nat} {σ : zS}  (hs : F75 σ0 σ) : zp (zb_X_run_57 N σ) (fun r => F75 σ0 r.2) := by
  unfold zb_X_run_57
  refine zp_ite (fun _ => ?_) fun _ => ?_
  ·
    exact zp_some hs
  ·
    exact zp_some hs
theorem sh_f_X_run {σ0 : zS} {N : Nat} {σ : zS}  (hs : F75 σ0 σ) : zp (zf_X_run N σ) (fun r => F75 σ0 r.2) := by
  unfold zf_X_run
  refine zp_ite (fun _ => ?_) fun _ => ?_
  ·
    refine zp_ite (fun _ => ?_) fun _ => ?_
    ·
      exact sh_b_X_run_57  (F75.up (by decide) hs)
    ·
      refine zp_bind (zp_mono (sh_f_Space_explore  (F75.up (by decide) (F75.up (by decide) hs))) fun r4 hr4 => ?_)
      refine zp_chk fun _ => ?_
      refine zp_ite (fun _ => ?_) fun _ => ?_
      ·
        exact sh_b_X_run_57  (F75.up (by decide) hr4)
      ·
        refine zp_bind (zp_mono (sh_f_Findings_gather  (F75.up (by decide) hr4)) fun r7 hr7 => ?_)
        exact sh_b_X_run_57  hr7
  ·
    exact zp_some hs
theorem sh_b_Space_wayTo_90 {σ0 : zS} {k51 : zS → Int32 → Int32 → Int32 → Option (Int32 × zS)} {N : Nat} {σ : zS} {v3 : Int32} {v4 : Int32} {v5 : Int32} (hk51 : ∀ (y0 : zS) (y1 : Int32) (y2 : Int32) (y3 : Int32), F75 σ0 y0 → zp (k51 y0 y1 y2 y3) (fun r => F75 σ0 r.2)) (hs : F75 σ0 σ) : zp (zb_Space_wayTo_90 k51 N σ v3 v4 v5) (fun r => F75 σ0 r.2) := by
  unfold zb_Space_wayTo_90
  refine zp_chk fun _ => ?_
  exact hk51 _ _ _ _ hs
theorem sh_b_Space_wayTo_51 {σ0 : zS} {N : Nat}  : ∀ (n : Nat) (σ : zS) (v3 : Int32) (v4 : Int32) (v5 : Int32), F75 σ0 σ → zp (zb_Space_wayTo_51 N n σ v3 v4 v5) (fun r => F75 σ0 r.2) := by
  intro n
  induction n with
  | zero => intro _ _ _ _ _; exact zp_none
  | succ n ih =>
    intro σ v3 v4 v5 hs
    rw [zb_Space_wayTo_51]
    refine zp_ite (fun _ => ?_) fun _ => ?_
    ·
      exact zp_some hs
    ·
      refine zp_bind fun r3 _ => ?_
      refine zp_ite (fun _ => ?_) fun _ => ?_
      ·
        exact zp_some hs
      ·
        refine zp_ite (fun _ => ?_) fun _ => ?_
        ·
          exact zp_some hs
        ·
          refine zp_ite (fun _ => ?_) fun _ => ?_
          ·
            exact sh_b_Space_wayTo_90 (ih) hs
          ·
            refine zp_chk fun _ => ?_
            refine zp_chk fun _ => ?_
            exact sh_b_Space_wayTo_90 (ih) (F75.up (by decide) hs)
theorem sh_b_Space_wayTo_43 {σ0 : zS} {N : Nat} {σ : zS} {v1 : Int32} {v3 : Int32}  (hs : F75 σ0 σ) : zp (zb_Space_wayTo_43 N σ v1 v3) (fun r => F75 σ0 r.2) := by
  unfold zb_Space_wayTo_43
  exact sh_b_Space_wayTo_51  _ _ _ _ _ hs
theorem sh_b_Space_wayTo_5 {σ0 : zS} {N : Nat}  : ∀ (n : Nat) (σ : zS) (v1 : Int32) (v3 : Int32) (v4 : Int32), F75 σ0 σ → zp (zb_Space_wayTo_5 N n σ v1 v3 v4) (fun r => F75 σ0 r.2) := by
  intro n
  induction n with
  | zero => intro _ _ _ _ _; exact zp_none
  | succ n ih =>
    intro σ v1 v3 v4 hs
    rw [zb_Space_wayTo_5]
    refine zp_ite (fun _ => ?_) fun _ => ?_
    ·
      exact sh_b_Space_wayTo_43  hs
    ·
      refine zp_bind fun r10 _ => ?_
      refine zp_ite (fun _ => ?_) fun _ => ?_
      ·
        exact sh_b_Space_wayTo_43  hs
      ·
        refine zp_ite (fun _ => ?_) fun _ => ?_
        ·
          exact sh_b_Space_wayTo_43  hs
        ·
          refine zp_chk fun _ => ?_
          exact ih _ _ _ _ hs
theorem sh_f_Space_wayTo {σ0 : zS} {N : Nat} {σ : zS} {x1 : Int32}  (hs : F75 σ0 σ) : zp (zf_Space_wayTo N σ x1) (fun r => F75 σ0 r.2) := by
  unfold zf_Space_wayTo
  exact sh_b_Space_wayTo_5  _ _ _ _ _ hs
theorem sh_f_X_show {σ0 : zS} {N : Nat} {σ : zS} {x1 : Int32} {x2 : Int32}  (hs : F75 σ0 σ) : zp (zf_X_show N σ x1 x2) (fun r => F75 σ0 r.2) := by
  unfold zf_X_show
  refine zp_ite (fun _ => ?_) fun _ => ?_
  ·
    refine zp_bind fun r2 _ => ?_
    refine zp_ite (fun _ => ?_) fun _ => ?_
    ·
      refine zp_bind (zp_mono (sh_f_Space_wayTo  hs) fun r4 hr4 => ?_)
      exact zp_some (F75.up (by decide) hr4)
    ·
      exact zp_some hs
  ·
    exact zp_some hs
theorem sh_f_X_thread {σ0 : zS} {N : Nat} {σ : zS} {x1 : Int32} {x2 : Int32} {x3 : Int32}  (hs : F75 σ0 σ) : zp (zf_X_thread N σ x1 x2 x3) (fun r => F75 σ0 r.2) := by
  unfold zf_X_thread
  refine zp_ite (fun _ => ?_) fun _ => ?_
  ·
    refine zp_bind fun r2 _ => ?_
    refine zp_ite (fun _ => ?_) fun _ => ?_
    ·
      exact zp_some hs
    ·
      refine zp_bind fun r4 _ => ?_
      refine zp_ite (fun _ => ?_) fun _ => ?_
      ·
        refine zp_bind (zp_mono (sh_f_Space_load  hs) fun r6 hr6 => ?_)
        refine zp_ite (fun _ => ?_) fun _ => ?_
        ·
          refine zp_bind fun r19 _ => ?_
          exact zp_some hr6
        ·
          refine zp_ite (fun _ => ?_) fun _ => ?_
          ·
            refine zp_bind fun r18 _ => ?_
            exact zp_some hr6
          ·
            refine zp_ite (fun _ => ?_) fun _ => ?_
            ·
              refine zp_bind fun r16 _ => ?_
              refine zp_ite (fun _ => ?_) fun _ => ?_
              ·
                exact zp_some hr6
              ·
                exact zp_some hr6
            ·
              refine zp_ite (fun _ => ?_) fun _ => ?_
              ·
                refine zp_bind fun r15 _ => ?_
                exact zp_some hr6
              ·
                refine zp_ite (fun _ => ?_) fun _ => ?_
                ·
                  refine zp_bind fun r14 _ => ?_
                  exact zp_some hr6
                ·
                  refine zp_ite (fun _ => ?_) fun _ => ?_
                  ·
                    refine zp_bind fun r13 _ => ?_
                    exact zp_some hr6
                  ·
                    exact zp_some hr6
      ·
        exact zp_some hs
  ·
    exact zp_some hs
theorem sh_f_X_field {σ0 : zS} {N : Nat} {σ : zS} {x1 : Int32} {x2 : Int32}  (hs : F75 σ0 σ) : zp (zf_X_field N σ x1 x2) (fun r => F75 σ0 r.2) := by
  unfold zf_X_field
  refine zp_ite (fun _ => ?_) fun _ => ?_
  ·
    refine zp_ite (fun _ => ?_) fun _ => ?_
    ·
      exact zp_some hs
    ·
      refine zp_ite (fun _ => ?_) fun _ => ?_
      ·
        exact zp_some hs
      ·
        refine zp_bind fun r4 _ => ?_
        refine zp_ite (fun _ => ?_) fun _ => ?_
        ·
          refine zp_bind (zp_mono (sh_f_Space_load  hs) fun r6 hr6 => ?_)
          refine zp_bind fun r7 _ => ?_
          exact zp_some hr6
        ·
          exact zp_some hs
  ·
    exact zp_some hs
theorem sh_f_X_owner {σ0 : zS} {N : Nat} {σ : zS} {x1 : Int32} {x2 : Int32}  (hs : F75 σ0 σ) : zp (zf_X_owner N σ x1 x2) (fun r => F75 σ0 r.2) := by
  unfold zf_X_owner
  refine zp_ite (fun _ => ?_) fun _ => ?_
  ·
    refine zp_ite (fun _ => ?_) fun _ => ?_
    ·
      exact zp_some hs
    ·
      refine zp_ite (fun _ => ?_) fun _ => ?_
      ·
        exact zp_some hs
      ·
        refine zp_bind fun r4 _ => ?_
        refine zp_ite (fun _ => ?_) fun _ => ?_
        ·
          refine zp_bind (zp_mono (sh_f_Space_load  hs) fun r6 hr6 => ?_)
          refine zp_bind fun r7 _ => ?_
          exact zp_some hr6
        ·
          exact zp_some hs
  ·
    exact zp_some hs
theorem sh_f_X_stuck {σ0 : zS} {N : Nat} {σ : zS} {x1 : Int32}  (hs : F75 σ0 σ) : zp (zf_X_stuck N σ x1) (fun r => F75 σ0 r.2) := by
  unfold zf_X_stuck
  refine zp_ite (fun _ => ?_) fun _ => ?_
  ·
    refine zp_bind fun r2 _ => ?_
    refine zp_ite (fun _ => ?_) fun _ => ?_
    ·
      exact zp_some hs
    ·
      refine zp_bind fun r4 _ => ?_
      refine zp_ite (fun _ => ?_) fun _ => ?_
      ·
        refine zp_bind (zp_mono (sh_f_Space_load  hs) fun r6 hr6 => ?_)
        refine zp_bind fun r7 _ => ?_
        refine zp_ite (fun _ => ?_) fun _ => ?_
        ·
          refine zp_bind fun r9 _ => ?_
          refine zp_ite (fun _ => ?_) fun _ => ?_
          ·
            refine zp_bind fun r11 _ => ?_
            refine zp_ite (fun _ => ?_) fun _ => ?_
            ·
              exact zp_some hr6
            ·
              exact zp_some hr6
          ·
            exact zp_some hr6
        ·
          exact zp_some hr6
      ·
        exact zp_some hs
  ·
    exact zp_some hs
theorem sh_f_Numbers_clear_c9 {σ0 : zS} {σ : zS}  (hs : F75 σ0 σ) : zp (zf_Numbers_clear_c9 σ) (fun r => F75 σ0 r) := by
  unfold zf_Numbers_clear_c9
  exact zp_some (F75.up (by decide) hs)
theorem sh_f_Numbers_add_c9 {σ0 : zS} {σ : zS} {x1 : Int32}  (hs : F75 σ0 σ) : zp (zf_Numbers_add_c9 σ x1) (fun r => F75 σ0 r) := by
  unfold zf_Numbers_add_c9
  refine zp_ite (fun _ => ?_) fun _ => ?_
  ·
    exact zp_some hs
  ·
    refine zp_ite (fun _ => ?_) fun _ => ?_
    ·
      exact zp_some hs
    ·
      refine zp_chk fun _ => ?_
      exact zp_some (F75.up (by decide) (F75.up (by decide) hs))
theorem sh_b_Judge_listDoubts_66 {σ0 : zS} {k27 : zS → Int32 → Int32 → Int32 → Option (zS)} {N : Nat} {σ : zS} {v1 : Int32} {v2 : Int32} {v3 : Int32} (hk27 : ∀ (y0 : zS) (y1 : Int32) (y2 : Int32) (y3 : Int32), F75 σ0 y0 → zp (k27 y0 y1 y2 y3) (fun r => F75 σ0 r)) (hs : F75 σ0 σ) : zp (zb_Judge_listDoubts_66 k27 N σ v1 v2 v3) (fun r => F75 σ0 r) := by
  unfold zb_Judge_listDoubts_66
  exact hk27 _ _ _ _ hs
theorem sh_b_Judge_listDoubts_27 {σ0 : zS} {k9 : zS → Int32 → Option (zS)} {N : Nat} (hk9 : ∀ (y0 : zS) (y1 : Int32), F75 σ0 y0 → zp (k9 y0 y1) (fun r => F75 σ0 r)) : ∀ (n : Nat) (σ : zS) (v1 : Int32) (v2 : Int32) (v3 : Int32), F75 σ0 σ → zp (zb_Judge_listDoubts_27 k9 N n σ v1 v2 v3) (fun r => F75 σ0 r) := by
  intro n
  induction n with
  | zero => intro _ _ _ _ _; exact zp_none
  | succ n ih =>
    intro σ v1 v2 v3 hs
    rw [zb_Judge_listDoubts_27]
    refine zp_ite (fun _ => ?_) fun _ => ?_
    ·
      exact hk9 _ _ hs
    ·
      refine zp_bind fun r4 _ => ?_
      refine zp_ite (fun _ => ?_) fun _ => ?_
      ·
        exact sh_b_Judge_listDoubts_66 (ih) hs
      ·
        refine zp_bind (zp_mono (sh_f_Numbers_add_c9  hs) fun r6 hr6 => ?_)
        exact sh_b_Judge_listDoubts_66 (ih) hr6
theorem sh_b_Judge_listDoubts_9 {σ0 : zS} {N : Nat}  : ∀ (n : Nat) (σ : zS) (v1 : Int32), F75 σ0 σ → zp (zb_Judge_listDoubts_9 N n σ v1) (fun r => F75 σ0 r) := by
  intro n
  induction n with
  | zero => intro _ _ _; exact zp_none
  | succ n ih =>
    intro σ v1 hs
    rw [zb_Judge_listDoubts_9]
    refine zp_ite (fun _ => ?_) fun _ => ?_
    ·
      exact zp_some hs
    ·
      exact sh_b_Judge_listDoubts_27 (ih) _ _ _ _ _ hs
theorem sh_f_Judge_listDoubts {σ0 : zS} {N : Nat} {σ : zS}  (hs : F75 σ0 σ) : zp (zf_Judge_listDoubts N σ) (fun r => F75 σ0 r) := by
  unfold zf_Judge_listDoubts
  refine zp_bind (zp_mono (sh_f_Numbers_clear_c9  hs) fun r1 hr1 => ?_)
  exact sh_b_Judge_listDoubts_9  _ _ _ hr1
theorem sh_b_Judge_countRingsWith_116 {σ0 : zS} {kr : zS → Int32 → Int32 → Option (Int32 × zS)} {k6 : zS → Int32 → Int32 → Int32 → Int32 → Int32 → Int32 → Option (Int32 × zS)} {N : Nat} {σ : zS} {v1 : Int32} {v2 : Int32} {v3 : Int32} {v4 : Int32} {v5 : Int32} {v6 : Int32} (hkr : ∀ (y0 : zS) (y1 : Int32) (y2 : Int32), F75 σ0 y0 → zp (kr y0 y1 y2) (fun r => F75 σ0 r.2)) (hk6 : ∀ (y0 : zS) (y1 : Int32) (y2 : Int32) (y3 : Int32) (y4 : Int32) (y5 : Int32) (y6 : Int32), F75 σ0 y0 → zp (k6 y0 y1 y2 y3 y4 y5 y6) (fun r => F75 σ0 r.2)) (hs : F75 σ0 σ) : zp (zb_Judge_countRingsWith_116 kr k6 N σ v1 v2 v3 v4 v5 v6) (fun r => F75 σ0 r.2) := by
  unfold zb_Judge_countRingsWith_116
  exact hk6 _ _ _ _ _ _ _ hs
theorem sh_b_Judge_countRingsWith_6 {σ0 : zS} {kr : zS → Int32 → Int32 → Option (Int32 × zS)} {N : Nat} (hkr : ∀ (y0 : zS) (y1 : Int32) (y2 : Int32), F75 σ0 y0 → zp (kr y0 y1 y2) (fun r => F75 σ0 r.2)) : ∀ (n : Nat) (σ : zS) (v1 : Int32) (v2 : Int32) (v3 : Int32) (v4 : Int32) (v5 : Int32) (v6 : Int32), F75 σ0 σ → zp (zb_Judge_countRingsWith_6 kr N n σ v1 v2 v3 v4 v5 v6) (fun r => F75 σ0 r.2) := by
  intro n
  induction n with
  | zero => intro _ _ _ _ _ _ _ _; exact zp_none
  | succ n ih =>
    intro σ v1 v2 v3 v4 v5 v6 hs
    rw [zb_Judge_countRingsWith_6]
    refine zp_bind fun r1 _ => ?_
    refine zp_ite (fun _ => ?_) fun _ => ?_
    ·
      exact zp_some hs
    ·
      refine zp_ite (fun _ => ?_) fun _ => ?_
      ·
        exact zp_some hs
      ·
        refine zp_bind fun r4 _ => ?_
        refine zp_chk fun _ => ?_
        refine zp_chk fun _ => ?_
        refine zp_ite (fun _ => ?_) fun _ => ?_
        ·
          exact sh_b_Judge_countRingsWith_116 (hkr) (ih) hs
        ·
          refine zp_ite (fun _ => ?_) fun _ => ?_
          ·
            exact sh_b_Judge_countRingsWith_116 (hkr) (ih) hs
          ·
            refine zp_ite (fun _ => ?_) fun _ => ?_
            ·
              exact sh_b_Judge_countRingsWith_116 (hkr) (ih) hs
            ·
              refine zp_bind fun r10 _ => ?_
              refine zp_ite (fun _ => ?_) fun _ => ?_
              ·
                exact sh_b_Judge_countRingsWith_116 (hkr) (ih) hs
              ·
                refine zp_chk fun _ => ?_
                refine zp_bind (zp_mono (hkr _ _ _ (F75.up (by decide) hs)) fun r13 hr13 => ?_)
                exact sh_b_Judge_countRingsWith_116 (hkr) (ih) hr13
theorem sh_f_Judge_countRingsWith {σ0 : zS} {kr : zS → Int32 → Int32 → Option (Int32 × zS)} {N : Nat} {σ : zS} {x1 : Int32} {x2 : Int32} {x3 : Int32} {x4 : Int32} (hkr : ∀ (y0 : zS) (y1 : Int32) (y2 : Int32), F75 σ0 y0 → zp (kr y0 y1 y2) (fun r => F75 σ0 r.2)) (hs : F75 σ0 σ) : zp (zf_Judge_countRingsWith kr N σ x1 x2 x3 x4) (fun r => F75 σ0 r.2) := by
  unfold zf_Judge_countRingsWith
  exact sh_b_Judge_countRingsWith_6 (hkr) _ _ _ _ _ _ _ _ hs
theorem sh_b_Judge_countRingsFrom_69 {σ0 : zS} {kr : zS → Int32 → Int32 → Option (Int32 × zS)} {N : Nat} (hkr : ∀ (y0 : zS) (y1 : Int32) (y2 : Int32), F75 σ0 y0 → zp (kr y0 y1 y2) (fun r => F75 σ0 r.2)) : ∀ (n : Nat) (σ : zS) (v1 : Int32) (v2 : Int32) (v4 : Int32) (v5 : Int32) (v6 : Int32), F75 σ0 σ → zp (zb_Judge_countRingsFrom_69 kr N n σ v1 v2 v4 v5 v6) (fun r => F75 σ0 r.2) := by
  intro n
  induction n with
  | zero => intro _ _ _ _ _ _ _; exact zp_none
  | succ n ih =>
    intro σ v1 v2 v4 v5 v6 hs
    rw [zb_Judge_countRingsFrom_69]
    refine zp_ite (fun _ => ?_) fun _ => ?_
    ·
      exact zp_some hs
    ·
      refine zp_bind (zp_mono (sh_f_Judge_countRingsWith (hkr) hs) fun r7 hr7 => ?_)
      exact ih _ _ _ _ _ _ hr7
theorem sh_b_Judge_countRingsFrom_59 {σ0 : zS} {kr : zS → Int32 → Int32 → Option (Int32 × zS)} {N : Nat} {σ : zS} {v1 : Int32} {v2 : Int32} {v3 : Int32} {v4 : Int32} {s0 : Int32} (hkr : ∀ (y0 : zS) (y1 : Int32) (y2 : Int32), F75 σ0 y0 → zp (kr y0 y1 y2) (fun r => F75 σ0 r.2)) (hs : F75 σ0 σ) : zp (zb_Judge_countRingsFrom_59 kr N σ v1 v2 v3 v4 s0) (fun r => F75 σ0 r.2) := by
  unfold zb_Judge_countRingsFrom_59
  exact sh_b_Judge_countRingsFrom_69 (hkr) _ _ _ _ _ _ _ hs
theorem sh_f_Judge_countRingsFromB {σ0 : zS} {kr : zS → Int32 → Int32 → Option (Int32 × zS)} {N : Nat} {σ : zS} {x1 : Int32} {x2 : Int32} (hkr : ∀ (y0 : zS) (y1 : Int32) (y2 : Int32), F75 σ0 y0 → zp (kr y0 y1 y2) (fun r => F75 σ0 r.2)) (hs : F75 σ0 σ) : zp (zf_Judge_countRingsFromB kr N σ x1 x2) (fun r => F75 σ0 r.2) := by
  unfold zf_Judge_countRingsFromB
  refine zp_ite (fun _ => ?_) fun _ => ?_
  ·
    exact zp_some hs
  ·
    refine zp_ite (fun _ => ?_) fun _ => ?_
    ·
      refine zp_chk fun _ => ?_
      refine zp_chk fun _ => ?_
      refine zp_ite (fun _ => ?_) fun _ => ?_
      ·
        exact sh_b_Judge_countRingsFrom_59 (hkr) hs
      ·
        refine zp_chk fun _ => ?_
        exact sh_b_Judge_countRingsFrom_59 (hkr) hs
    ·
      exact zp_some hs
theorem sh_f_Judge_countRingsFrom {σ0 : zS} {N : Nat}  : ∀ (n : Nat) (σ : zS) (x1 : Int32) (x2 : Int32), F75 σ0 σ → zp (zf_Judge_countRingsFrom N n σ x1 x2) (fun r => F75 σ0 r.2) := by
  intro n
  induction n with
  | zero => intro _ _ _ _; exact zp_none
  | succ n ih =>
    intro σ x1 x2 hs
    rw [zf_Judge_countRingsFrom]
    exact sh_f_Judge_countRingsFromB (ih) hs
theorem sh_b_Judge_countRings_63 {σ0 : zS} {k4 : zS → Int32 → Int32 → Option (Int32 × zS)} {N : Nat} {σ : zS} {v1 : Int32} {v2 : Int32} (hk4 : ∀ (y0 : zS) (y1 : Int32) (y2 : Int32), F75 σ0 y0 → zp (k4 y0 y1 y2) (fun r => F75 σ0 r.2)) (hs : F75 σ0 σ) : zp (zb_Judge_countRings_63 k4 N σ v1 v2) (fun r => F75 σ0 r.2) := by
  unfold zb_Judge_countRings_63
  exact hk4 _ _ _ hs
theorem sh_b_Judge_countRings_4 {σ0 : zS} {N : Nat}  : ∀ (n : Nat) (σ : zS) (v1 : Int32) (v2 : Int32), F75 σ0 σ → zp (zb_Judge_countRings_4 N n σ v1 v2) (fun r => F75 σ0 r.2) := by
  intro n
  induction n with
  | zero => intro _ _ _ _; exact zp_none
  | succ n ih =>
    intro σ v1 v2 hs
    rw [zb_Judge_countRings_4]
    refine zp_ite (fun _ => ?_) fun _ => ?_
    ·
      exact zp_some hs
    ·
      refine zp_bind fun r2 _ => ?_
      refine zp_chk fun _ => ?_
      refine zp_ite (fun _ => ?_) fun _ => ?_
      ·
        exact sh_b_Judge_countRings_63 (ih) hs
      ·
        refine zp_chk fun _ => ?_
        refine zp_bind (zp_mono (sh_f_Judge_countRingsFrom  _ _ _ _ (F75.up (by decide) hs)) fun r6 hr6 => ?_)
        exact sh_b_Judge_countRings_63 (ih) hr6
theorem sh_f_Judge_countRings {σ0 : zS} {N : Nat} {σ : zS}  (hs : F75 σ0 σ) : zp (zf_Judge_countRings N σ) (fun r => F75 σ0 r.2) := by
  unfold zf_Judge_countRings
  exact sh_b_Judge_countRings_4  _ _ _ _ hs
theorem sh_b_Judge_prepare_14 {σ0 : zS} {N : Nat}  : ∀ (n : Nat) (σ : zS) (v1 : Int32), F75 σ0 σ → zp (zb_Judge_prepare_14 N n σ v1) (fun r => F75 σ0 r) := by
  intro n
  induction n with
  | zero => intro _ _ _; exact zp_none
  | succ n ih =>
    intro σ v1 hs
    rw [zb_Judge_prepare_14]
    refine zp_ite (fun _ => ?_) fun _ => ?_
    ·
      refine zp_bind (zp_mono (sh_f_Judge_listDoubts  hs) fun r3 hr3 => ?_)
      refine zp_bind (zp_mono (sh_f_Judge_countRings  hr3) fun r4 hr4 => ?_)
      exact zp_some (F75.up (by decide) hr4)
    ·
      refine zp_bind fun r5 _ => ?_
      refine zp_chk fun _ => ?_
      exact ih _ _ (F75.up (by decide) hs)
theorem sh_f_Judge_prepare {σ0 : zS} {N : Nat} {σ : zS}  (hs : F75 σ0 σ) : zp (zf_Judge_prepare N σ) (fun r => F75 σ0 r) := by
  unfold zf_Judge_prepare
  refine zp_ite (fun _ => ?_) fun _ => ?_
  ·
    exact zp_some hs
  ·
    exact sh_b_Judge_prepare_14  _ _ _ (F75.up (by decide) hs)
theorem sh_f_X_doubts {σ0 : zS} {N : Nat} {σ : zS}  (hs : F75 σ0 σ) : zp (zf_X_doubts N σ) (fun r => F75 σ0 r.2) := by
  unfold zf_X_doubts
  refine zp_ite (fun _ => ?_) fun _ => ?_
  ·
    refine zp_bind (zp_mono (sh_f_Judge_prepare  hs) fun r2 hr2 => ?_)
    exact zp_some hr2
  ·
    exact zp_some hs
theorem sh_f_X_doubt {σ0 : zS} {N : Nat} {σ : zS} {x1 : Int32} {x2 : Int32}  (hs : F75 σ0 σ) : zp (zf_X_doubt N σ x1 x2) (fun r => F75 σ0 r.2) := by
  unfold zf_X_doubt
  refine zp_ite (fun _ => ?_) fun _ => ?_
  ·
    refine zp_bind (zp_mono (sh_f_Judge_prepare  hs) fun r2 hr2 => ?_)
    refine zp_bind fun r3 _ => ?_
    refine zp_bind fun r4 _ => ?_
    exact zp_some hr2
  ·
    exact zp_some hs
theorem sh_f_X_meet {σ0 : zS} {N : Nat} {σ : zS} {x1 : Int32} {x2 : Int32} {x3 : Int32} {x4 : Int32}  (hs : F75 σ0 σ) : zp (zf_X_meet N σ x1 x2 x3 x4) (fun r => F75 σ0 r.2) := by
  unfold zf_X_meet
  refine zp_ite (fun _ => ?_) fun _ => ?_
  ·
    refine zp_ite (fun _ => ?_) fun _ => ?_
    ·
      exact zp_some hs
    ·
      refine zp_bind fun r3 _ => ?_
      refine zp_ite (fun _ => ?_) fun _ => ?_
      ·
        exact zp_some hs
      ·
        refine zp_bind fun r5 _ => ?_
        refine zp_ite (fun _ => ?_) fun _ => ?_
        ·
          refine zp_bind (zp_mono (sh_f_Judge_prepare  hs) fun r7 hr7 => ?_)
          refine zp_bind fun r8 _ => ?_
          refine zp_ite (fun _ => ?_) fun _ => ?_
          ·
            exact zp_some hr7
          ·
            exact zp_some hr7
        ·
          exact zp_some hs
  ·
    exact zp_some hs
theorem sh_f_X_rings {σ0 : zS} {N : Nat} {σ : zS}  (hs : F75 σ0 σ) : zp (zf_X_rings N σ) (fun r => F75 σ0 r.2) := by
  unfold zf_X_rings
  refine zp_ite (fun _ => ?_) fun _ => ?_
  ·
    refine zp_bind (zp_mono (sh_f_Judge_prepare  hs) fun r2 hr2 => ?_)
    exact zp_some hr2
  ·
    exact zp_some hs
def FG6 (σ0 σ : zS) : Prop := ∀ q, q < 36 ∨ (40 < q ∧ q < 64) ∨ 74 < q → σ q = σ0 q
theorem FG6.up {σ0 σ : zS} {p i : Nat} {x : Int32} (hp : ¬ (p < 36 ∨ (40 < p ∧ p < 64) ∨ 74 < p)) (h : FG6 σ0 σ) : FG6 σ0 (zx_up σ p i x) := fun q hq => by rw [zu_other (by omega)]; exact h q hq
theorem FG6.cp {σ0 σ : zS} {p q : Nat} {a b c : Int32} (hp : ¬ (q < 36 ∨ (40 < q ∧ q < 64) ∨ 74 < q)) (h : FG6 σ0 σ) : FG6 σ0 (zJ_copy σ p q a b c) := fun u hu => by rw [zJ_copy_ne (by omega)]; exact h u hu
theorem so_b_Arrays_fill_c4_5 {σ0 : zS} {N : Nat}  : ∀ (n : Nat) (σ : zS) (v1 : Int32) (v2 : Int32) (v3 : Int32), FG6 σ0 σ → zp (zb_Arrays_fill_c4_5 N n σ v1 v2 v3) (fun r => FG6 σ0 r) := by
  intro n
  induction n with
  | zero => intro _ _ _ _ _; exact zp_none
  | succ n ih =>
    intro σ v1 v2 v3 hs
    rw [zb_Arrays_fill_c4_5]
    refine zp_ite (fun _ => ?_) fun _ => ?_
    ·
      exact zp_some hs
    ·
      refine zp_chk fun _ => ?_
      exact ih _ _ _ _ (FG6.up (by decide) hs)
theorem so_f_Arrays_fill_c4 {σ0 : zS} {N : Nat} {σ : zS} {x2 : Int32}  (hs : FG6 σ0 σ) : zp (zf_Arrays_fill_c4 N σ x2) (fun r => FG6 σ0 r) := by
  unfold zf_Arrays_fill_c4
  exact so_b_Arrays_fill_c4_5  _ _ _ _ _ hs
theorem so_b_Machine_load_c1_130 {σ0 : zS} {k34 : zS → Int32 → Option (zS)} {N : Nat} {σ : zS} {v3 : Int32} (hk34 : ∀ (y0 : zS) (y1 : Int32), FG6 σ0 y0 → zp (k34 y0 y1) (fun r => FG6 σ0 r)) (hs : FG6 σ0 σ) : zp (zb_Machine_load_c1_130 k34 N σ v3) (fun r => FG6 σ0 r) := by
  unfold zb_Machine_load_c1_130
  exact hk34 _ _ hs
theorem so_b_Machine_load_c1_124 {σ0 : zS} {k95 : zS → Int32 → Int32 → Int32 → Option (zS)} {N : Nat} {σ : zS} {v3 : Int32} {v5 : Int32} {v6 : Int32} (hk95 : ∀ (y0 : zS) (y1 : Int32) (y2 : Int32) (y3 : Int32), FG6 σ0 y0 → zp (k95 y0 y1 y2 y3) (fun r => FG6 σ0 r)) (hs : FG6 σ0 σ) : zp (zb_Machine_load_c1_124 k95 N σ v3 v5 v6) (fun r => FG6 σ0 r) := by
  unfold zb_Machine_load_c1_124
  exact hk95 _ _ _ _ hs
theorem so_b_Machine_load_c1_95 {σ0 : zS} {k34 : zS → Int32 → Option (zS)} {N : Nat} (hk34 : ∀ (y0 : zS) (y1 : Int32), FG6 σ0 y0 → zp (k34 y0 y1) (fun r => FG6 σ0 r)) : ∀ (n : Nat) (σ : zS) (v3 : Int32) (v5 : Int32) (v6 : Int32), FG6 σ0 σ → zp (zb_Machine_load_c1_95 k34 N n σ v3 v5 v6) (fun r => FG6 σ0 r) := by
  intro n
  induction n with
  | zero => intro _ _ _ _ _; exact zp_none
  | succ n ih =>
    intro σ v3 v5 v6 hs
    rw [zb_Machine_load_c1_95]
    refine zp_ite (fun _ => ?_) fun _ => ?_
    ·
      exact so_b_Machine_load_c1_130 (hk34) hs
    ·
      refine zp_ite (fun _ => ?_) fun _ => ?_
      ·
        exact so_b_Machine_load_c1_130 (hk34) hs
      ·
        refine zp_ite (fun _ => ?_) fun _ => ?_
        ·
          exact so_b_Machine_load_c1_124 (ih) hs
        ·
          refine zp_chk fun _ => ?_
          exact so_b_Machine_load_c1_124 (ih) (FG6.up (by decide) hs)
theorem so_b_Machine_load_c1_34 {σ0 : zS} {N : Nat}  : ∀ (n : Nat) (σ : zS) (v3 : Int32), FG6 σ0 σ → zp (zb_Machine_load_c1_34 N n σ v3) (fun r => FG6 σ0 r) := by
  intro n
  induction n with
  | zero => intro _ _ _; exact zp_none
  | succ n ih =>
    intro σ v3 hs
    rw [zb_Machine_load_c1_34]
    refine zp_ite (fun _ => ?_) fun _ => ?_
    ·
      exact zp_some hs
    ·
      refine zp_chk fun _ => ?_
      refine zp_chk fun _ => ?_
      refine zp_bind fun r8 _ => ?_
      refine zp_chk fun _ => ?_
      refine zp_bind fun r10 _ => ?_
      exact so_b_Machine_load_c1_95 (ih) _ _ _ _ _ (FG6.up (by decide) (FG6.up (by decide) hs))
theorem so_f_Machine_load_c1 {σ0 : zS} {N : Nat} {σ : zS} {x2 : Int32}  (hs : FG6 σ0 σ) : zp (zf_Machine_load_c1 N σ x2) (fun r => FG6 σ0 r) := by
  unfold zf_Machine_load_c1
  refine zp_ite (fun _ => ?_) fun _ => ?_
  ·
    exact zp_some hs
  ·
    refine zp_ite (fun _ => ?_) fun _ => ?_
    ·
      refine zp_chk fun _ => ?_
      refine zp_bind (zp_mono (so_f_Arrays_fill_c4  (FG6.cp (by decide) hs)) fun r4 hr4 => ?_)
      exact so_b_Machine_load_c1_34  _ _ _ hr4
    ·
      exact zp_some hs
theorem so_f_Space_load_c1 {σ0 : zS} {N : Nat} {σ : zS} {x1 : Int32}  (hs : FG6 σ0 σ) : zp (zf_Space_load_c1 N σ x1) (fun r => FG6 σ0 r) := by
  unfold zf_Space_load_c1
  refine zp_bind fun r1 _ => ?_
  refine zp_ite (fun _ => ?_) fun _ => ?_
  ·
    exact zp_some hs
  ·
    refine zp_bind (zp_mono (so_f_Machine_load_c1  hs) fun r3 hr3 => ?_)
    exact zp_some hr3
theorem so_f_Numbers_clear_c7 {σ0 : zS} {σ : zS}  (hs : FG6 σ0 σ) : zp (zf_Numbers_clear_c7 σ) (fun r => FG6 σ0 r) := by
  unfold zf_Numbers_clear_c7
  exact zp_some (FG6.up (by decide) hs)
theorem so_f_Numbers_clear_c8 {σ0 : zS} {σ : zS}  (hs : FG6 σ0 σ) : zp (zf_Numbers_clear_c8 σ) (fun r => FG6 σ0 r) := by
  unfold zf_Numbers_clear_c8
  exact zp_some (FG6.up (by decide) hs)
theorem so_b_Arrays_fill_c8_5 {σ0 : zS} {N : Nat}  : ∀ (n : Nat) (σ : zS) (v1 : Int32) (v2 : Int32) (v3 : Int32), FG6 σ0 σ → zp (zb_Arrays_fill_c8_5 N n σ v1 v2 v3) (fun r => FG6 σ0 r) := by
  intro n
  induction n with
  | zero => intro _ _ _ _ _; exact zp_none
  | succ n ih =>
    intro σ v1 v2 v3 hs
    rw [zb_Arrays_fill_c8_5]
    refine zp_ite (fun _ => ?_) fun _ => ?_
    ·
      exact zp_some hs
    ·
      refine zp_chk fun _ => ?_
      exact ih _ _ _ _ (FG6.up (by decide) hs)
theorem so_f_Arrays_fill_c8 {σ0 : zS} {N : Nat} {σ : zS} {x2 : Int32}  (hs : FG6 σ0 σ) : zp (zf_Arrays_fill_c8 N σ x2) (fun r => FG6 σ0 r) := by
  unfold zf_Arrays_fill_c8
  exact so_b_Arrays_fill_c8_5  _ _ _ _ _ hs
theorem so_f_Numbers_add_c7 {σ0 : zS} {σ : zS} {x1 : Int32}  (hs : FG6 σ0 σ) : zp (zf_Numbers_add_c7 σ x1) (fun r => FG6 σ0 r) := by
  unfold zf_Numbers_add_c7
  refine zp_ite (fun _ => ?_) fun _ => ?_
  ·
    exact zp_some hs
  ·
    refine zp_ite (fun _ => ?_) fun _ => ?_
    ·
      exact zp_some hs
    ·
      refine zp_chk fun _ => ?_
      exact zp_some (FG6.up (by decide) (FG6.up (by decide) hs))
theorem so_f_Numbers_add_c8 {σ0 : zS} {σ : zS} {x1 : Int32}  (hs : FG6 σ0 σ) : zp (zf_Numbers_add_c8 σ x1) (fun r => FG6 σ0 r) := by
  unfold zf_Numbers_add_c8
  refine zp_ite (fun _ => ?_) fun _ => ?_
  ·
    exact zp_some hs
  ·
    refine zp_ite (fun _ => ?_) fun _ => ?_
    ·
      exact zp_some hs
    ·
      refine zp_chk fun _ => ?_
      exact zp_some (FG6.up (by decide) (FG6.up (by decide) hs))
theorem so_f_Outcomes_note_c1 {σ0 : zS} {N : Nat} {σ : zS} {x1 : Int32} {x2 : Int32}  (hs : FG6 σ0 σ) : zp (zf_Outcomes_note_c1 N σ x1 x2) (fun r => FG6 σ0 r) := by
  unfold zf_Outcomes_note_c1
  refine zp_bind fun r1 _ => ?_
  refine zp_chk fun _ => ?_
  refine zp_ite (fun _ => ?_) fun _ => ?_
  ·
    exact zp_some hs
  ·
    refine zp_bind (zp_mono (so_f_Numbers_add_c7  hs) fun r4 hr4 => ?_)
    refine zp_bind (zp_mono (so_f_Numbers_add_c8  hr4) fun r5 hr5 => ?_)
    refine zp_chk fun _ => ?_
    exact zp_some (FG6.up (by decide) hr5)
theorem so_b_Outcomes_gather_c1_57 {σ0 : zS} {k24 : zS → Int32 → Option (zS)} {N : Nat} {σ : zS} {v2 : Int32} (hk24 : ∀ (y0 : zS) (y1 : Int32), FG6 σ0 y0 → zp (k24 y0 y1) (fun r => FG6 σ0 r)) (hs : FG6 σ0 σ) : zp (zb_Outcomes_gather_c1_57 k24 N σ v2) (fun r => FG6 σ0 r) := by
  unfold zb_Outcomes_gather_c1_57
  exact hk24 _ _ hs
theorem so_b_Outcomes_gather_c1_24 {σ0 : zS} {N : Nat}  : ∀ (n : Nat) (σ : zS) (v2 : Int32), FG6 σ0 σ → zp (zb_Outcomes_gather_c1_24 N n σ v2) (fun r => FG6 σ0 r) := by
  intro n
  induction n with
  | zero => intro _ _ _; exact zp_none
  | succ n ih =>
    intro σ v2 hs
    rw [zb_Outcomes_gather_c1_24]
    refine zp_ite (fun _ => ?_) fun _ => ?_
    ·
      exact zp_some hs
    ·
      refine zp_bind fun r5 _ => ?_
      refine zp_ite (fun _ => ?_) fun _ => ?_
      ·
        exact so_b_Outcomes_gather_c1_57 (ih) hs
      ·
        refine zp_bind (zp_mono (so_f_Space_load_c1  hs) fun r7 hr7 => ?_)
        refine zp_bind fun r8 _ => ?_
        refine zp_bind (zp_mono (so_f_Outcomes_note_c1  hr7) fun r9 hr9 => ?_)
        exact so_b_Outcomes_gather_c1_57 (ih) hr9
theorem so_f_Outcomes_gather_c1 {σ0 : zS} {N : Nat} {σ : zS}  (hs : FG6 σ0 σ) : zp (zf_Outcomes_gather_c1 N σ) (fun r => FG6 σ0 r) := by
  unfold zf_Outcomes_gather_c1
  refine zp_bind (zp_mono (so_f_Numbers_clear_c7  hs) fun r1 hr1 => ?_)
  refine zp_bind (zp_mono (so_f_Numbers_clear_c8  hr1) fun r2 hr2 => ?_)
  refine zp_bind (zp_mono (so_f_Arrays_fill_c8  hr2) fun r3 hr3 => ?_)
  exact so_b_Outcomes_gather_c1_24  _ _ _ hr3
theorem sh_gather {N : Nat} {σ : zS} : zp (zf_Outcomes_gather_c1 N σ) (fun r => ∀ q, q < 36 ∨ (40 < q ∧ q < 64) ∨ 74 < q → r q = σ q) := so_f_Outcomes_gather_c1 (σ0 := σ) fun _ _ => rfl
theorem c_same01 {N : Nat} {σ : zS} : zp (zf_Outcomes_isSameAs N σ) (fun r => r = 0 ∨ r = 1) := by
  have go : ∀ (n : Nat) (v : Int32), zp (zb_Outcomes_isSameAs_21 N n σ v) (fun r => r = 0 ∨ r = 1) := by
    intro n
    induction n with
    | zero => intro _; exact zp_none
    | succ n ih =>
      intro v
      rw [zb_Outcomes_isSameAs_21]
      exact zp_ite (fun _ => zp_some (Or.inr rfl)) fun _ => zp_bind fun r3 _ => zp_bind fun r4 _ => zp_chk fun _ => zp_ite (fun _ => ih _) fun _ => zp_some (Or.inl rfl)
  unfold zf_Outcomes_isSameAs
  exact zp_ite (fun _ => go _ _) fun _ => zp_some (Or.inl rfl)
def FR2 (σ0 σ : zS) : Prop := σ 2 = σ0 2
theorem FR2.up {σ0 σ : zS} {p i : Nat} {x : Int32} (hp : 2 ≠ p) (h : FR2 σ0 σ) : FR2 σ0 (zx_up σ p i x) := by
  unfold FR2 at *
  rw [zu_other hp]
  exact h
theorem FR2.cp {σ0 σ : zS} {p q : Nat} {a b c : Int32} (hq : 2 ≠ q) (h : FR2 σ0 σ) : FR2 σ0 (zJ_copy σ p q a b c) := by
  unfold FR2 at *
  rw [zJ_copy_ne hq]
  exact h
def FR8 (σ0 σ : zS) : Prop := ∀ q, 82 ≤ q → σ q = σ0 q
theorem FR8.up {σ0 σ : zS} {p i : Nat} {x : Int32} (hp : p < 82) (h : FR8 σ0 σ) : FR8 σ0 (zx_up σ p i x) := fun q hq => by rw [zu_other (by omega)]; exact h q hq
theorem FR8.cp {σ0 σ : zS} {p q : Nat} {a b c : Int32} (hp : q < 82) (h : FR8 σ0 σ) : FR8 σ0 (zJ_copy σ p q a b c) := fun u hu => by rw [zJ_copy_ne (by omega)]; exact h u hu
theorem sr_b_Arrays_fill_c3_5 {σ0 : zS} {N : Nat}  : ∀ (n : Nat) (σ : zS) (v1 : Int32) (v2 : Int32) (v3 : Int32), FR2 σ0 σ → zp (zb_Arrays_fill_c3_5 N n σ v1 v2 v3) (fun r => FR2 σ0 r) := by
  intro n
  induction n with
  | zero => intro _ _ _ _ _; exact zp_none
  | succ n ih =>
    intro σ v1 v2 v3 hs
    rw [zb_Arrays_fill_c3_5]
    refine zp_ite (fun _ => ?_) fun _ => ?_
    ·
      exact zp_some hs
    ·
      refine zp_chk fun _ => ?_
      exact ih _ _ _ _ (FR2.up (by decide) hs)
theorem sr_f_Arrays_fill_c3 {σ0 : zS} {N : Nat} {σ : zS} {x2 : Int32}  (hs : FR2 σ0 σ) : zp (zf_Arrays_fill_c3 N σ x2) (fun r => FR2 σ0 r) := by
  unfold zf_Arrays_fill_c3
  exact sr_b_Arrays_fill_c3_5  _ _ _ _ _ hs
theorem sr_b_Machine_setFirst_50 {σ0 : zS} {k15 : zS → Int32 → Option (zS)} {N : Nat} {σ : zS} {v1 : Int32} {v2 : Int32} (hk15 : ∀ (y0 : zS) (y1 : Int32), FR2 σ0 y0 → zp (k15 y0 y1) (fun r => FR2 σ0 r)) (hs : FR2 σ0 σ) : zp (zb_Machine_setFirst_50 k15 N σ v1 v2) (fun r => FR2 σ0 r) := by
  unfold zb_Machine_setFirst_50
  refine zp_chk fun _ => ?_
  exact hk15 _ _ (FR2.up (by decide) hs)
theorem sr_b_Machine_setFirst_36 {σ0 : zS} {k15 : zS → Int32 → Option (zS)} {N : Nat} {σ : zS} {v1 : Int32} {s0 : Int32} (hk15 : ∀ (y0 : zS) (y1 : Int32), FR2 σ0 y0 → zp (k15 y0 y1) (fun r => FR2 σ0 r)) (hs : FR2 σ0 σ) : zp (zb_Machine_setFirst_36 k15 N σ v1 s0) (fun r => FR2 σ0 r) := by
  unfold zb_Machine_setFirst_36
  refine zp_bind fun r4 _ => ?_
  refine zp_ite (fun _ => ?_) fun _ => ?_
  ·
    exact sr_b_Machine_setFirst_50 (hk15) hs
  ·
    exact sr_b_Machine_setFirst_50 (hk15) hs
theorem sr_b_Machine_setFirst_15 {σ0 : zS} {N : Nat}  : ∀ (n : Nat) (σ : zS) (v1 : Int32), FR2 σ0 σ → zp (zb_Machine_setFirst_15 N n σ v1) (fun r => FR2 σ0 r) := by
  intro n
  induction n with
  | zero => intro _ _ _; exact zp_none
  | succ n ih =>
    intro σ v1 hs
    rw [zb_Machine_setFirst_15]
    refine zp_ite (fun _ => ?_) fun _ => ?_
    ·
      exact zp_some hs
    ·
      refine zp_bind fun r2 _ => ?_
      refine zp_ite (fun _ => ?_) fun _ => ?_
      ·
        exact sr_b_Machine_setFirst_36 (ih) hs
      ·
        exact sr_b_Machine_setFirst_36 (ih) hs
theorem sr_f_Machine_setFirst {σ0 : zS} {N : Nat} {σ : zS}  (hs : FR2 σ0 σ) : zp (zf_Machine_setFirst N σ) (fun r => FR2 σ0 r) := by
  unfold zf_Machine_setFirst
  exact sr_b_Machine_setFirst_15  _ _ _ (FR2.up (by decide) hs)
theorem sr_f_Space_note {σ0 : zS} {N : Nat} {σ : zS} {x1 : Int32}  (hs : FR2 σ0 σ) : zp (zf_Space_note N σ x1) (fun r => FR2 σ0 r.2) := by
  unfold zf_Space_note
  refine zp_bind fun r1 _ => ?_
  refine zp_chk fun _ => ?_
  refine zp_ite (fun _ => ?_) fun _ => ?_
  ·
    refine zp_ite (fun _ => ?_) fun _ => ?_
    ·
      exact zp_some hs
    ·
      refine zp_ite (fun _ => ?_) fun _ => ?_
      ·
        refine zp_chk fun _ => ?_
        refine zp_chk fun _ => ?_
        refine zp_chk fun _ => ?_
        exact zp_some (FR2.up (by decide) (FR2.up (by decide) (FR2.up (by decide) (FR2.cp (by decide) hs))))
      ·
        exact zp_some hs
  ·
    exact zp_some hs
theorem sr_b_Arrays_fill_c4_5 {σ0 : zS} {N : Nat}  : ∀ (n : Nat) (σ : zS) (v1 : Int32) (v2 : Int32) (v3 : Int32), FR2 σ0 σ → zp (zb_Arrays_fill_c4_5 N n σ v1 v2 v3) (fun r => FR2 σ0 r) := by
  intro n
  induction n with
  | zero => intro _ _ _ _ _; exact zp_none
  | succ n ih =>
    intro σ v1 v2 v3 hs
    rw [zb_Arrays_fill_c4_5]
    refine zp_ite (fun _ => ?_) fun _ => ?_
    ·
      exact zp_some hs
    ·
      refine zp_chk fun _ => ?_
      exact ih _ _ _ _ (FR2.up (by decide) hs)
theorem sr_f_Arrays_fill_c4 {σ0 : zS} {N : Nat} {σ : zS} {x2 : Int32}  (hs : FR2 σ0 σ) : zp (zf_Arrays_fill_c4 N σ x2) (fun r => FR2 σ0 r) := by
  unfold zf_Arrays_fill_c4
  exact sr_b_Arrays_fill_c4_5  _ _ _ _ _ hs
theorem sr_b_Machine_load_130 {σ0 : zS} {k34 : zS → Int32 → Option (zS)} {N : Nat} {σ : zS} {v3 : Int32} (hk34 : ∀ (y0 : zS) (y1 : Int32), FR2 σ0 y0 → zp (k34 y0 y1) (fun r => FR2 σ0 r)) (hs : FR2 σ0 σ) : zp (zb_Machine_load_130 k34 N σ v3) (fun r => FR2 σ0 r) := by
  unfold zb_Machine_load_130
  exact hk34 _ _ hs
theorem sr_b_Machine_load_124 {σ0 : zS} {k95 : zS → Int32 → Int32 → Int32 → Option (zS)} {N : Nat} {σ : zS} {v3 : Int32} {v5 : Int32} {v6 : Int32} (hk95 : ∀ (y0 : zS) (y1 : Int32) (y2 : Int32) (y3 : Int32), FR2 σ0 y0 → zp (k95 y0 y1 y2 y3) (fun r => FR2 σ0 r)) (hs : FR2 σ0 σ) : zp (zb_Machine_load_124 k95 N σ v3 v5 v6) (fun r => FR2 σ0 r) := by
  unfold zb_Machine_load_124
  exact hk95 _ _ _ _ hs
theorem sr_b_Machine_load_95 {σ0 : zS} {k34 : zS → Int32 → Option (zS)} {N : Nat} (hk34 : ∀ (y0 : zS) (y1 : Int32), FR2 σ0 y0 → zp (k34 y0 y1) (fun r => FR2 σ0 r)) : ∀ (n : Nat) (σ : zS) (v3 : Int32) (v5 : Int32) (v6 : Int32), FR2 σ0 σ → zp (zb_Machine_load_95 k34 N n σ v3 v5 v6) (fun r => FR2 σ0 r) := by
  intro n
  induction n with
  | zero => intro _ _ _ _ _; exact zp_none
  | succ n ih =>
    intro σ v3 v5 v6 hs
    rw [zb_Machine_load_95]
    refine zp_ite (fun _ => ?_) fun _ => ?_
    ·
      exact sr_b_Machine_load_130 (hk34) hs
    ·
      refine zp_ite (fun _ => ?_) fun _ => ?_
      ·
        exact sr_b_Machine_load_130 (hk34) hs
      ·
        refine zp_ite (fun _ => ?_) fun _ => ?_
        ·
          exact sr_b_Machine_load_124 (ih) hs
        ·
          refine zp_chk fun _ => ?_
          exact sr_b_Machine_load_124 (ih) (FR2.up (by decide) hs)
theorem sr_b_Machine_load_34 {σ0 : zS} {N : Nat}  : ∀ (n : Nat) (σ : zS) (v3 : Int32), FR2 σ0 σ → zp (zb_Machine_load_34 N n σ v3) (fun r => FR2 σ0 r) := by
  intro n
  induction n with
  | zero => intro _ _ _; exact zp_none
  | succ n ih =>
    intro σ v3 hs
    rw [zb_Machine_load_34]
    refine zp_ite (fun _ => ?_) fun _ => ?_
    ·
      exact zp_some hs
    ·
      refine zp_chk fun _ => ?_
      refine zp_chk fun _ => ?_
      refine zp_bind fun r8 _ => ?_
      refine zp_chk fun _ => ?_
      refine zp_bind fun r10 _ => ?_
      exact sr_b_Machine_load_95 (ih) _ _ _ _ _ (FR2.up (by decide) (FR2.up (by decide) hs))
theorem sr_f_Machine_load {σ0 : zS} {N : Nat} {σ : zS} {x2 : Int32}  (hs : FR2 σ0 σ) : zp (zf_Machine_load N σ x2) (fun r => FR2 σ0 r) := by
  unfold zf_Machine_load
  refine zp_ite (fun _ => ?_) fun _ => ?_
  ·
    exact zp_some hs
  ·
    refine zp_ite (fun _ => ?_) fun _ => ?_
    ·
      refine zp_chk fun _ => ?_
      refine zp_bind (zp_mono (sr_f_Arrays_fill_c4  (FR2.cp (by decide) hs)) fun r4 hr4 => ?_)
      exact sr_b_Machine_load_34  _ _ _ hr4
    ·
      exact zp_some hs
theorem sr_f_Space_load {σ0 : zS} {N : Nat} {σ : zS} {x1 : Int32}  (hs : FR2 σ0 σ) : zp (zf_Space_load N σ x1) (fun r => FR2 σ0 r) := by
  unfold zf_Space_load
  refine zp_bind fun r1 _ => ?_
  refine zp_ite (fun _ => ?_) fun _ => ?_
  ·
    exact zp_some hs
  ·
    refine zp_bind (zp_mono (sr_f_Machine_load  hs) fun r3 hr3 => ?_)
    exact zp_some hr3
theorem sr_b_Machine_place_30 {σ0 : zS} {σ : zS} {v1 : Int32} {v2 : Int32} {v3 : Int32} {s0 : Int32}  (hs : FR2 σ0 σ) : zp (zb_Machine_place_30 σ v1 v2 v3 s0) (fun r => FR2 σ0 r) := by
  unfold zb_Machine_place_30
  refine zp_ite (fun _ => ?_) fun _ => ?_
  ·
    exact zp_some hs
  ·
    refine zp_ite (fun _ => ?_) fun _ => ?_
    ·
      exact zp_some hs
    ·
      refine zp_chk fun _ => ?_
      refine zp_chk fun _ => ?_
      exact zp_some (FR2.up (by decide) hs)
theorem sr_b_Machine_place_15 {σ0 : zS} {σ : zS} {v1 : Int32} {v2 : Int32} {v3 : Int32} {s0 : Int32}  (hs : FR2 σ0 σ) : zp (zb_Machine_place_15 σ v1 v2 v3 s0) (fun r => FR2 σ0 r) := by
  unfold zb_Machine_place_15
  refine zp_ite (fun _ => ?_) fun _ => ?_
  ·
    exact sr_b_Machine_place_30  hs
  ·
    exact sr_b_Machine_place_30  hs
theorem sr_b_Machine_place_10 {σ0 : zS} {σ : zS} {v1 : Int32} {v2 : Int32} {v3 : Int32}  (hs : FR2 σ0 σ) : zp (zb_Machine_place_10 σ v1 v2 v3) (fun r => FR2 σ0 r) := by
  unfold zb_Machine_place_10
  exact sr_b_Machine_place_15  hs
theorem sr_f_Machine_place {σ0 : zS} {σ : zS} {x1 : Int32} {x2 : Int32} {x3 : Int32}  (hs : FR2 σ0 σ) : zp (zf_Machine_place σ x1 x2 x3) (fun r => FR2 σ0 r) := by
  unfold zf_Machine_place
  refine zp_ite (fun _ => ?_) fun _ => ?_
  ·
    exact sr_b_Machine_place_10  hs
  ·
    refine zp_ite (fun _ => ?_) fun _ => ?_
    ·
      exact sr_b_Machine_place_15  hs
    ·
      exact sr_b_Machine_place_10  hs
theorem sr_b_Machine_goTo_49 {σ0 : zS} {σ : zS} {s0 : Int32} {s1 : Int32} {s2 : Int32}  (hs : FR2 σ0 σ) : zp (zb_Machine_goTo_49 σ s0 s1 s2) (fun r => FR2 σ0 r) := by
  unfold zb_Machine_goTo_49
  refine zp_bind (zp_mono (sr_f_Machine_place  hs) fun r4 hr4 => ?_)
  exact zp_some hr4
theorem sr_b_Machine_goTo_40 {σ0 : zS} {σ : zS} {v3 : Int32} {s0 : Int32} {s1 : Int32}  (hs : FR2 σ0 σ) : zp (zb_Machine_goTo_40 σ v3 s0 s1) (fun r => FR2 σ0 r) := by
  unfold zb_Machine_goTo_40
  refine zp_ite (fun _ => ?_) fun _ => ?_
  ·
    exact sr_b_Machine_goTo_49  hs
  ·
    exact sr_b_Machine_goTo_49  hs
theorem sr_b_Machine_goTo_21 {σ0 : zS} {σ : zS} {v1 : Int32} {v2 : Int32} {s0 : Int32}  (hs : FR2 σ0 σ) : zp (zb_Machine_goTo_21 σ v1 v2 s0) (fun r => FR2 σ0 r) := by
  unfold zb_Machine_goTo_21
  refine zp_ite (fun _ => ?_) fun _ => ?_
  ·
    exact sr_b_Machine_goTo_40  hs
  ·
    refine zp_bind fun r5 _ => ?_
    exact sr_b_Machine_goTo_40  hs
theorem sr_b_Machine_goTo_16 {σ0 : zS} {σ : zS} {v1 : Int32} {v2 : Int32}  (hs : FR2 σ0 σ) : zp (zb_Machine_goTo_16 σ v1 v2) (fun r => FR2 σ0 r) := by
  unfold zb_Machine_goTo_16
  exact sr_b_Machine_goTo_21  hs
theorem sr_f_Machine_goTo {σ0 : zS} {σ : zS} {x1 : Int32} {x2 : Int32}  (hs : FR2 σ0 σ) : zp (zf_Machine_goTo σ x1 x2) (fun r => FR2 σ0 r) := by
  unfold zf_Machine_goTo
  refine zp_ite (fun _ => ?_) fun _ => ?_
  ·
    exact sr_b_Machine_goTo_16  hs
  ·
    refine zp_bind fun r6 _ => ?_
    refine zp_ite (fun _ => ?_) fun _ => ?_
    ·
      exact sr_b_Machine_goTo_21  hs
    ·
      exact sr_b_Machine_goTo_16  hs
theorem sr_f_Machine_startThread {σ0 : zS} {σ : zS} {x1 : Int32}  (hs : FR2 σ0 σ) : zp (zf_Machine_startThread σ x1) (fun r => FR2 σ0 r.2) := by
  unfold zf_Machine_startThread
  refine zp_bind fun r1 _ => ?_
  refine zp_ite (fun _ => ?_) fun _ => ?_
  ·
    refine zp_bind (zp_mono (sr_f_Machine_goTo  hs) fun r3 hr3 => ?_)
    exact zp_some hr3
  ·
    exact zp_some hs
theorem sr_b_Machine_signal_121 {σ0 : zS} {k49 : zS → Int32 → Int32 → Int32 → Int32 → Option (Int32 × zS)} {N : Nat} {σ : zS} {v3 : Int32} {v4 : Int32} {v5 : Int32} {v6 : Int32} (hk49 : ∀ (y0 : zS) (y1 : Int32) (y2 : Int32) (y3 : Int32) (y4 : Int32), FR2 σ0 y0 → zp (k49 y0 y1 y2 y3 y4) (fun r => FR2 σ0 r.2)) (hs : FR2 σ0 σ) : zp (zb_Machine_signal_121 k49 N σ v3 v4 v5 v6) (fun r => FR2 σ0 r.2) := by
  unfold zb_Machine_signal_121
  exact hk49 _ _ _ _ _ hs
theorem sr_b_Machine_signal_119 {σ0 : zS} {k49 : zS → Int32 → Int32 → Int32 → Int32 → Option (Int32 × zS)} {N : Nat} {σ : zS} {v3 : Int32} {v4 : Int32} {v6 : Int32} {s0 : Int32} (hk49 : ∀ (y0 : zS) (y1 : Int32) (y2 : Int32) (y3 : Int32) (y4 : Int32), FR2 σ0 y0 → zp (k49 y0 y1 y2 y3 y4) (fun r => FR2 σ0 r.2)) (hs : FR2 σ0 σ) : zp (zb_Machine_signal_119 k49 N σ v3 v4 v6 s0) (fun r => FR2 σ0 r.2) := by
  unfold zb_Machine_signal_119
  exact sr_b_Machine_signal_121 (hk49) hs
theorem sr_b_Machine_signal_49 {σ0 : zS} {N : Nat}  : ∀ (n : Nat) (σ : zS) (v3 : Int32) (v4 : Int32) (v5 : Int32) (v6 : Int32), FR2 σ0 σ → zp (zb_Machine_signal_49 N n σ v3 v4 v5 v6) (fun r => FR2 σ0 r.2) := by
  intro n
  induction n with
  | zero => intro _ _ _ _ _ _; exact zp_none
  | succ n ih =>
    intro σ v3 v4 v5 v6 hs
    rw [zb_Machine_signal_49]
    refine zp_ite (fun _ => ?_) fun _ => ?_
    ·
      exact zp_some hs
    ·
      refine zp_ite (fun _ => ?_) fun _ => ?_
      ·
        exact zp_some hs
      ·
        refine zp_bind fun r8 _ => ?_
        refine zp_ite (fun _ => ?_) fun _ => ?_
        ·
          exact sr_b_Machine_signal_121 (ih) hs
        ·
          refine zp_bind fun r10 _ => ?_
          refine zp_chk fun _ => ?_
          refine zp_ite (fun _ => ?_) fun _ => ?_
          ·
            exact sr_b_Machine_signal_121 (ih) hs
          ·
            refine zp_bind fun r13 _ => ?_
            refine zp_bind (zp_mono (sr_f_Machine_place  hs) fun r14 hr14 => ?_)
            refine zp_ite (fun _ => ?_) fun _ => ?_
            ·
              exact sr_b_Machine_signal_119 (ih) hr14
            ·
              exact sr_b_Machine_signal_119 (ih) hr14
theorem sr_b_Machine_signal_44 {σ0 : zS} {N : Nat} {σ : zS} {v3 : Int32} {v4 : Int32} {s0 : Int32}  (hs : FR2 σ0 σ) : zp (zb_Machine_signal_44 N σ v3 v4 s0) (fun r => FR2 σ0 r.2) := by
  unfold zb_Machine_signal_44
  exact sr_b_Machine_signal_49  _ _ _ _ _ _ hs
theorem sr_f_Machine_signal {σ0 : zS} {N : Nat} {σ : zS} {x1 : Int32} {x2 : Int32}  (hs : FR2 σ0 σ) : zp (zf_Machine_signal N σ x1 x2) (fun r => FR2 σ0 r.2) := by
  unfold zf_Machine_signal
  refine zp_chk fun _ => ?_
  refine zp_chk fun _ => ?_
  refine zp_bind fun r3 _ => ?_
  refine zp_ite (fun _ => ?_) fun _ => ?_
  ·
    refine zp_ite (fun _ => ?_) fun _ => ?_
    ·
      exact sr_b_Machine_signal_44  hs
    ·
      exact sr_b_Machine_signal_44  hs
  ·
    exact zp_some hs
theorem sr_b_Machine_work_150 {σ0 : zS} {σ : zS} {v4 : Int32} {v6 : Int32} {s0 : Int32} {s1 : Int32}  (hs : FR2 σ0 σ) : zp (zb_Machine_work_150 σ v4 v6 s0 s1) (fun r => FR2 σ0 r) := by
  unfold zb_Machine_work_150
  refine zp_ite (fun _ => ?_) fun _ => ?_
  ·
    exact zp_some hs
  ·
    refine zp_ite (fun _ => ?_) fun _ => ?_
    ·
      exact zp_some hs
    ·
      refine zp_chk fun _ => ?_
      refine zp_chk fun _ => ?_
      exact zp_some (FR2.up (by decide) hs)
theorem sr_b_Machine_work_121 {σ0 : zS} {σ : zS} {v2 : Int32} {v3 : Int32} {v4 : Int32} {s0 : Int32}  (hs : FR2 σ0 σ) : zp (zb_Machine_work_121 σ v2 v3 v4 s0) (fun r => FR2 σ0 r) := by
  unfold zb_Machine_work_121
  refine zp_ite (fun _ => ?_) fun _ => ?_
  ·
    refine zp_chk fun _ => ?_
    exact sr_b_Machine_work_150  hs
  ·
    refine zp_chk fun _ => ?_
    exact sr_b_Machine_work_150  hs
theorem sr_b_Machine_work_109 {σ0 : zS} {σ : zS} {v1 : Int32} {v2 : Int32} {v3 : Int32} {v4 : Int32}  (hs : FR2 σ0 σ) : zp (zb_Machine_work_109 σ v1 v2 v3 v4) (fun r => FR2 σ0 r) := by
  unfold zb_Machine_work_109
  refine zp_ite (fun _ => ?_) fun _ => ?_
  ·
    exact sr_b_Machine_work_121  hs
  ·
    exact sr_b_Machine_work_121  hs
theorem sr_f_Machine_work {σ0 : zS} {σ : zS} {x1 : Int32} {x2 : Int32}  (hs : FR2 σ0 σ) : zp (zf_Machine_work σ x1 x2) (fun r => FR2 σ0 r) := by
  unfold zf_Machine_work
  refine zp_chk fun _ => ?_
  refine zp_chk fun _ => ?_
  refine zp_bind fun r3 _ => ?_
  refine zp_chk fun _ => ?_
  refine zp_bind fun r5 _ => ?_
  refine zp_ite (fun _ => ?_) fun _ => ?_
  ·
    refine zp_chk fun _ => ?_
    refine zp_ite (fun _ => ?_) fun _ => ?_
    ·
      refine zp_chk fun _ => ?_
      refine zp_ite (fun _ => ?_) fun _ => ?_
      ·
        exact sr_b_Machine_work_109  hs
      ·
        exact sr_b_Machine_work_109  hs
    ·
      exact sr_b_Machine_work_109  hs
  ·
    refine zp_chk fun _ => ?_
    refine zp_bind fun r20 _ => ?_
    exact sr_b_Machine_work_109  hs
theorem sr_b_Machine_move_317 {σ0 : zS} {N : Nat} {σ : zS} {v1 : Int32} {v6 : Int32}  (hs : FR2 σ0 σ) : zp (zb_Machine_move_317 N σ v1 v6) (fun r => FR2 σ0 r) := by
  unfold zb_Machine_move_317
  refine zp_bind (zp_mono (sr_f_Machine_goTo  hs) fun r28 hr28 => ?_)
  exact zp_some hr28
theorem sr_b_Machine_move_261 {σ0 : zS} {N : Nat} {σ : zS} {v1 : Int32} {v3 : Int32} {v5 : Int32} {v6 : Int32}  (hs : FR2 σ0 σ) : zp (zb_Machine_move_261 N σ v1 v3 v5 v6) (fun r => FR2 σ0 r) := by
  unfold zb_Machine_move_261
  refine zp_ite (fun _ => ?_) fun _ => ?_
  ·
    refine zp_bind fun r26 _ => ?_
    refine zp_ite (fun _ => ?_) fun _ => ?_
    ·
      exact sr_b_Machine_move_317  hs
    ·
      refine zp_chk fun _ => ?_
      refine zp_ite (fun _ => ?_) fun _ => ?_
      ·
        exact sr_b_Machine_move_317  hs
      ·
        refine zp_bind fun r31 _ => ?_
        refine zp_bind (zp_mono (sr_f_Machine_place  hs) fun r32 hr32 => ?_)
        exact zp_some hr32
  ·
    refine zp_bind fun r33 _ => ?_
    refine zp_bind (zp_mono (sr_f_Machine_place  hs) fun r34 hr34 => ?_)
    exact zp_some hr34
theorem sr_b_Machine_move_216 {σ0 : zS} {N : Nat} {σ : zS} {v1 : Int32} {v3 : Int32} {v5 : Int32} {s0 : Int32}  (hs : FR2 σ0 σ) : zp (zb_Machine_move_216 N σ v1 v3 v5 s0) (fun r => FR2 σ0 r) := by
  unfold zb_Machine_move_216
  exact sr_b_Machine_move_261  hs
theorem sr_b_Machine_move_116 {σ0 : zS} {N : Nat} {σ : zS} {v1 : Int32} {v3 : Int32} {v5 : Int32} {v6 : Int32} {s0 : Int32}  (hs : FR2 σ0 σ) : zp (zb_Machine_move_116 N σ v1 v3 v5 v6 s0) (fun r => FR2 σ0 r) := by
  unfold zb_Machine_move_116
  refine zp_ite (fun _ => ?_) fun _ => ?_
  ·
    refine zp_bind (zp_mono (sr_f_Machine_work  hs) fun r49 hr49 => ?_)
    exact sr_b_Machine_move_261  hr49
  ·
    refine zp_ite (fun _ => ?_) fun _ => ?_
    ·
      refine zp_bind (zp_mono (sr_f_Machine_work  hs) fun r48 hr48 => ?_)
      exact sr_b_Machine_move_261  hr48
    ·
      refine zp_ite (fun _ => ?_) fun _ => ?_
      ·
        refine zp_bind (zp_mono (sr_f_Machine_work  hs) fun r47 hr47 => ?_)
        exact sr_b_Machine_move_261  hr47
      ·
        refine zp_ite (fun _ => ?_) fun _ => ?_
        ·
          exact sr_b_Machine_move_261  hs
        ·
          refine zp_ite (fun _ => ?_) fun _ => ?_
          ·
            exact sr_b_Machine_move_261  hs
          ·
            refine zp_ite (fun _ => ?_) fun _ => ?_
            ·
              refine zp_bind fun r44 _ => ?_
              refine zp_ite (fun _ => ?_) fun _ => ?_
              ·
                refine zp_chk fun _ => ?_
                exact sr_b_Machine_move_216  hs
              ·
                exact sr_b_Machine_move_216  hs
            ·
              refine zp_ite (fun _ => ?_) fun _ => ?_
              ·
                refine zp_bind fun r41 _ => ?_
                refine zp_ite (fun _ => ?_) fun _ => ?_
                ·
                  refine zp_chk fun _ => ?_
                  exact sr_b_Machine_move_216  hs
                ·
                  exact sr_b_Machine_move_216  hs
              ·
                refine zp_ite (fun _ => ?_) fun _ => ?_
                ·
                  refine zp_bind (zp_mono (sr_f_Machine_signal  hs) fun r40 hr40 => ?_)
                  exact sr_b_Machine_move_261  hr40
                ·
                  refine zp_ite (fun _ => ?_) fun _ => ?_
                  ·
                    refine zp_bind (zp_mono (sr_f_Machine_signal  hs) fun r39 hr39 => ?_)
                    exact sr_b_Machine_move_261  hr39
                  ·
                    refine zp_ite (fun _ => ?_) fun _ => ?_
                    ·
                      refine zp_bind (zp_mono (sr_f_Machine_signal  hs) fun r38 hr38 => ?_)
                      exact sr_b_Machine_move_261  hr38
                    ·
                      refine zp_ite (fun _ => ?_) fun _ => ?_
                      ·
                        refine zp_chk fun _ => ?_
                        refine zp_bind (zp_mono (sr_f_Machine_startThread  hs) fun r37 hr37 => ?_)
                        exact sr_b_Machine_move_261  hr37
                      ·
                        refine zp_ite (fun _ => ?_) fun _ => ?_
                        ·
                          exact sr_b_Machine_move_261  hs
                        ·
                          refine zp_ite (fun _ => ?_) fun _ => ?_
                          ·
                            refine zp_bind fun r35 _ => ?_
                            exact sr_b_Machine_move_261  hs
                          ·
                            exact sr_b_Machine_move_261  hs
theorem sr_b_Machine_move_39 {σ0 : zS} {N : Nat} {σ : zS} {v1 : Int32} {v3 : Int32} {s0 : Int32}  (hs : FR2 σ0 σ) : zp (zb_Machine_move_39 N σ v1 v3 s0) (fun r => FR2 σ0 r) := by
  unfold zb_Machine_move_39
  refine zp_chk fun _ => ?_
  refine zp_chk fun _ => ?_
  refine zp_chk fun _ => ?_
  refine zp_bind fun r9 _ => ?_
  refine zp_ite (fun _ => ?_) fun _ => ?_
  ·
    refine zp_chk fun _ => ?_
    exact sr_b_Machine_move_116  (FR2.up (by decide) (FR2.cp (by decide) hs))
  ·
    exact sr_b_Machine_move_116  (FR2.up (by decide) (FR2.cp (by decide) hs))
theorem sr_b_Machine_move_38 {σ0 : zS} {N : Nat} {σ : zS} {v1 : Int32} {v3 : Int32}  (hs : FR2 σ0 σ) : zp (zb_Machine_move_38 N σ v1 v3) (fun r => FR2 σ0 r) := by
  unfold zb_Machine_move_38
  exact sr_b_Machine_move_39  hs
theorem sr_f_Machine_move {σ0 : zS} {N : Nat} {σ : zS} {x1 : Int32} {x2 : Int32}  (hs : FR2 σ0 σ) : zp (zf_Machine_move N σ x1 x2) (fun r => FR2 σ0 r) := by
  unfold zf_Machine_move
  refine zp_ite (fun _ => ?_) fun _ => ?_
  ·
    exact zp_some hs
  ·
    refine zp_ite (fun _ => ?_) fun _ => ?_
    ·
      refine zp_bind fun r3 _ => ?_
      refine zp_ite (fun _ => ?_) fun _ => ?_
      ·
        exact sr_b_Machine_move_38  hs
      ·
        refine zp_chk fun _ => ?_
        refine zp_ite (fun _ => ?_) fun _ => ?_
        ·
          exact sr_b_Machine_move_38  hs
        ·
          exact sr_b_Machine_move_39  hs
    ·
      exact zp_some hs
theorem sr_b_Space_exploreFrom_95 {σ0 : zS} {k20 : zS → Int32 → Int32 → Int32 → Int32 → Int32 → Option (Int32 × zS)} {N : Nat} {σ : zS} {v1 : Int32} {v2 : Int32} {v3 : Int32} {v4 : Int32} {v5 : Int32} (hk20 : ∀ (y0 : zS) (y1 : Int32) (y2 : Int32) (y3 : Int32) (y4 : Int32) (y5 : Int32), FR2 σ0 y0 → zp (k20 y0 y1 y2 y3 y4 y5) (fun r => FR2 σ0 r.2)) (hs : FR2 σ0 σ) : zp (zb_Space_exploreFrom_95 k20 N σ v1 v2 v3 v4 v5) (fun r => FR2 σ0 r.2) := by
  unfold zb_Space_exploreFrom_95
  exact hk20 _ _ _ _ _ _ hs
theorem sr_b_Space_exploreFrom_48 {σ0 : zS} {k20 : zS → Int32 → Int32 → Int32 → Int32 → Int32 → Option (Int32 × zS)} {N : Nat} {σ : zS} {v1 : Int32} {v2 : Int32} {v3 : Int32} {v4 : Int32} {v5 : Int32} {s0 : Int32} (hk20 : ∀ (y0 : zS) (y1 : Int32) (y2 : Int32) (y3 : Int32) (y4 : Int32) (y5 : Int32), FR2 σ0 y0 → zp (k20 y0 y1 y2 y3 y4 y5) (fun r => FR2 σ0 r.2)) (hs : FR2 σ0 σ) : zp (zb_Space_exploreFrom_48 k20 N σ v1 v2 v3 v4 v5 s0) (fun r => FR2 σ0 r.2) := by
  unfold zb_Space_exploreFrom_48
  refine zp_ite (fun _ => ?_) fun _ => ?_
  ·
    exact sr_b_Space_exploreFrom_95 (hk20) hs
  ·
    refine zp_bind fun r9 _ => ?_
    refine zp_ite (fun _ => ?_) fun _ => ?_
    ·
      exact sr_b_Space_exploreFrom_95 (hk20) hs
    ·
      refine zp_bind (zp_mono (sr_f_Machine_move  hs) fun r11 hr11 => ?_)
      refine zp_bind (zp_mono (sr_f_Space_note  hr11) fun r12 hr12 => ?_)
      refine zp_ite (fun _ => ?_) fun _ => ?_
      ·
        exact sr_b_Space_exploreFrom_95 (hk20) hr12
      ·
        exact zp_some hr12
theorem sr_b_Space_exploreFrom_43 {σ0 : zS} {k20 : zS → Int32 → Int32 → Int32 → Int32 → Int32 → Option (Int32 × zS)} {N : Nat} {σ : zS} {v1 : Int32} {v2 : Int32} {v3 : Int32} {v4 : Int32} {v5 : Int32} (hk20 : ∀ (y0 : zS) (y1 : Int32) (y2 : Int32) (y3 : Int32) (y4 : Int32) (y5 : Int32), FR2 σ0 y0 → zp (k20 y0 y1 y2 y3 y4 y5) (fun r => FR2 σ0 r.2)) (hs : FR2 σ0 σ) : zp (zb_Space_exploreFrom_43 k20 N σ v1 v2 v3 v4 v5) (fun r => FR2 σ0 r.2) := by
  unfold zb_Space_exploreFrom_43
  exact sr_b_Space_exploreFrom_48 (hk20) hs
theorem sr_b_Space_exploreFrom_20 {σ0 : zS} {N : Nat}  : ∀ (n : Nat) (σ : zS) (v1 : Int32) (v2 : Int32) (v3 : Int32) (v4 : Int32) (v5 : Int32), FR2 σ0 σ → zp (zb_Space_exploreFrom_20 N n σ v1 v2 v3 v4 v5) (fun r => FR2 σ0 r.2) := by
  intro n
  induction n with
  | zero => intro _ _ _ _ _ _ _; exact zp_none
  | succ n ih =>
    intro σ v1 v2 v3 v4 v5 hs
    rw [zb_Space_exploreFrom_20]
    refine zp_ite (fun _ => ?_) fun _ => ?_
    ·
      refine zp_bind fun r4 _ => ?_
      refine zp_ite (fun _ => ?_) fun _ => ?_
      ·
        exact zp_some hs
      ·
        refine zp_chk fun _ => ?_
        exact zp_some (FR2.up (by decide) hs)
    ·
      refine zp_ite (fun _ => ?_) fun _ => ?_
      ·
        exact sr_b_Space_exploreFrom_43 (ih) hs
      ·
        refine zp_ite (fun _ => ?_) fun _ => ?_
        ·
          exact sr_b_Space_exploreFrom_48 (ih) hs
        ·
          exact sr_b_Space_exploreFrom_43 (ih) hs
theorem sr_f_Space_exploreFrom {σ0 : zS} {N : Nat} {σ : zS} {x1 : Int32} {x2 : Int32}  (hs : FR2 σ0 σ) : zp (zf_Space_exploreFrom N σ x1 x2) (fun r => FR2 σ0 r.2) := by
  unfold zf_Space_exploreFrom
  refine zp_bind (zp_mono (sr_f_Space_load  hs) fun r1 hr1 => ?_)
  refine zp_bind fun r2 _ => ?_
  exact sr_b_Space_exploreFrom_20  _ _ _ _ _ _ _ hr1
theorem sr_b_Space_explore_28 {σ0 : zS} {N : Nat}  : ∀ (n : Nat) (σ : zS) (v1 : Int32) (v2 : Int32) (v3 : Int32), FR2 σ0 σ → zp (zb_Space_explore_28 N n σ v1 v2 v3) (fun r => FR2 σ0 r.2) := by
  intro n
  induction n with
  | zero => intro _ _ _ _ _; exact zp_none
  | succ n ih =>
    intro σ v1 v2 v3 hs
    rw [zb_Space_explore_28]
    refine zp_ite (fun _ => ?_) fun _ => ?_
    ·
      refine zp_chk fun _ => ?_
      exact zp_some hs
    ·
      refine zp_ite (fun _ => ?_) fun _ => ?_
      ·
        refine zp_chk fun _ => ?_
        exact zp_some hs
      ·
        refine zp_ite (fun _ => ?_) fun _ => ?_
        ·
          refine zp_chk fun _ => ?_
          exact zp_some hs
        ·
          refine zp_bind (zp_mono (sr_f_Space_exploreFrom  hs) fun r10 hr10 => ?_)
          exact ih _ _ _ _ hr10
theorem sr_f_Space_explore {σ0 : zS} {N : Nat} {σ : zS} {x1 : Int32}  (hs : FR2 σ0 σ) : zp (zf_Space_explore N σ x1) (fun r => FR2 σ0 r.2) := by
  unfold zf_Space_explore
  refine zp_bind (zp_mono (sr_f_Arrays_fill_c3  (FR2.up (by decide) hs)) fun r1 hr1 => ?_)
  refine zp_bind (zp_mono (sr_f_Machine_setFirst  hr1) fun r2 hr2 => ?_)
  refine zp_bind (zp_mono (sr_f_Space_note  hr2) fun r3 hr3 => ?_)
  exact sr_b_Space_explore_28  _ _ _ _ _ hr3
theorem sr_f_Numbers_clear {σ0 : zS} {σ : zS}  (hs : FR2 σ0 σ) : zp (zf_Numbers_clear σ) (fun r => FR2 σ0 r) := by
  unfold zf_Numbers_clear
  exact zp_some (FR2.up (by decide) hs)
theorem sr_f_Numbers_clear_c1 {σ0 : zS} {σ : zS}  (hs : FR2 σ0 σ) : zp (zf_Numbers_clear_c1 σ) (fun r => FR2 σ0 r) := by
  unfold zf_Numbers_clear_c1
  exact zp_some (FR2.up (by decide) hs)
theorem sr_f_Numbers_clear_c2 {σ0 : zS} {σ : zS}  (hs : FR2 σ0 σ) : zp (zf_Numbers_clear_c2 σ) (fun r => FR2 σ0 r) := by
  unfold zf_Numbers_clear_c2
  exact zp_some (FR2.up (by decide) hs)
theorem sr_b_Arrays_fill_c5_5 {σ0 : zS} {N : Nat}  : ∀ (n : Nat) (σ : zS) (v1 : Int32) (v2 : Int32) (v3 : Int32), FR2 σ0 σ → zp (zb_Arrays_fill_c5_5 N n σ v1 v2 v3) (fun r => FR2 σ0 r) := by
  intro n
  induction n with
  | zero => intro _ _ _ _ _; exact zp_none
  | succ n ih =>
    intro σ v1 v2 v3 hs
    rw [zb_Arrays_fill_c5_5]
    refine zp_ite (fun _ => ?_) fun _ => ?_
    ·
      exact zp_some hs
    ·
      refine zp_chk fun _ => ?_
      exact ih _ _ _ _ (FR2.up (by decide) hs)
theorem sr_f_Arrays_fill_c5 {σ0 : zS} {N : Nat} {σ : zS} {x2 : Int32}  (hs : FR2 σ0 σ) : zp (zf_Arrays_fill_c5 N σ x2) (fun r => FR2 σ0 r) := by
  unfold zf_Arrays_fill_c5
  exact sr_b_Arrays_fill_c5_5  _ _ _ _ _ hs
theorem sr_f_Numbers_clear_c3 {σ0 : zS} {σ : zS}  (hs : FR2 σ0 σ) : zp (zf_Numbers_clear_c3 σ) (fun r => FR2 σ0 r) := by
  unfold zf_Numbers_clear_c3
  exact zp_some (FR2.up (by decide) hs)
theorem sr_f_Numbers_clear_c4 {σ0 : zS} {σ : zS}  (hs : FR2 σ0 σ) : zp (zf_Numbers_clear_c4 σ) (fun r => FR2 σ0 r) := by
  unfold zf_Numbers_clear_c4
  exact zp_some (FR2.up (by decide) hs)
theorem sr_f_Numbers_add {σ0 : zS} {σ : zS} {x1 : Int32}  (hs : FR2 σ0 σ) : zp (zf_Numbers_add σ x1) (fun r => FR2 σ0 r) := by
  unfold zf_Numbers_add
  refine zp_ite (fun _ => ?_) fun _ => ?_
  ·
    exact zp_some hs
  ·
    refine zp_ite (fun _ => ?_) fun _ => ?_
    ·
      exact zp_some hs
    ·
      refine zp_chk fun _ => ?_
      exact zp_some (FR2.up (by decide) (FR2.up (by decide) hs))
theorem sr_f_Numbers_add_c1 {σ0 : zS} {σ : zS} {x1 : Int32}  (hs : FR2 σ0 σ) : zp (zf_Numbers_add_c1 σ x1) (fun r => FR2 σ0 r) := by
  unfold zf_Numbers_add_c1
  refine zp_ite (fun _ => ?_) fun _ => ?_
  ·
    exact zp_some hs
  ·
    refine zp_ite (fun _ => ?_) fun _ => ?_
    ·
      exact zp_some hs
    ·
      refine zp_chk fun _ => ?_
      exact zp_some (FR2.up (by decide) (FR2.up (by decide) hs))
theorem sr_b_Findings_listRaces_56 {σ0 : zS} {k16 : zS → Int32 → Option (zS)} {N : Nat} {σ : zS} {v1 : Int32} (hk16 : ∀ (y0 : zS) (y1 : Int32), FR2 σ0 y0 → zp (k16 y0 y1) (fun r => FR2 σ0 r)) (hs : FR2 σ0 σ) : zp (zb_Findings_listRaces_56 k16 N σ v1) (fun r => FR2 σ0 r) := by
  unfold zb_Findings_listRaces_56
  exact hk16 _ _ hs
theorem sr_b_Findings_listRaces_16 {σ0 : zS} {N : Nat}  : ∀ (n : Nat) (σ : zS) (v1 : Int32), FR2 σ0 σ → zp (zb_Findings_listRaces_16 N n σ v1) (fun r => FR2 σ0 r) := by
  intro n
  induction n with
  | zero => intro _ _ _; exact zp_none
  | succ n ih =>
    intro σ v1 hs
    rw [zb_Findings_listRaces_16]
    refine zp_ite (fun _ => ?_) fun _ => ?_
    ·
      exact zp_some hs
    ·
      refine zp_chk fun _ => ?_
      refine zp_ite (fun _ => ?_) fun _ => ?_
      ·
        exact sr_b_Findings_listRaces_56 (ih) hs
      ·
        refine zp_bind (zp_mono (sr_f_Numbers_add  hs) fun r6 hr6 => ?_)
        refine zp_chk fun _ => ?_
        refine zp_bind (zp_mono (sr_f_Numbers_add_c1  hr6) fun r8 hr8 => ?_)
        exact sr_b_Findings_listRaces_56 (ih) hr8
theorem sr_f_Findings_listRaces {σ0 : zS} {N : Nat} {σ : zS}  (hs : FR2 σ0 σ) : zp (zf_Findings_listRaces N σ) (fun r => FR2 σ0 r) := by
  unfold zf_Findings_listRaces
  refine zp_bind (zp_mono (sr_f_Numbers_clear_c3  hs) fun r1 hr1 => ?_)
  refine zp_bind (zp_mono (sr_f_Numbers_clear_c4  hr1) fun r2 hr2 => ?_)
  exact sr_b_Findings_listRaces_16  _ _ _ hr2
theorem sr_f_Numbers_clear_c5 {σ0 : zS} {σ : zS}  (hs : FR2 σ0 σ) : zp (zf_Numbers_clear_c5 σ) (fun r => FR2 σ0 r) := by
  unfold zf_Numbers_clear_c5
  exact zp_some (FR2.up (by decide) hs)
theorem sr_f_Numbers_clear_c6 {σ0 : zS} {σ : zS}  (hs : FR2 σ0 σ) : zp (zf_Numbers_clear_c6 σ) (fun r => FR2 σ0 r) := by
  unfold zf_Numbers_clear_c6
  exact zp_some (FR2.up (by decide) hs)
theorem sr_b_Arrays_fill_c6_5 {σ0 : zS} {N : Nat}  : ∀ (n : Nat) (σ : zS) (v1 : Int32) (v2 : Int32) (v3 : Int32), FR2 σ0 σ → zp (zb_Arrays_fill_c6_5 N n σ v1 v2 v3) (fun r => FR2 σ0 r) := by
  intro n
  induction n with
  | zero => intro _ _ _ _ _; exact zp_none
  | succ n ih =>
    intro σ v1 v2 v3 hs
    rw [zb_Arrays_fill_c6_5]
    refine zp_ite (fun _ => ?_) fun _ => ?_
    ·
      exact zp_some hs
    ·
      refine zp_chk fun _ => ?_
      exact ih _ _ _ _ (FR2.up (by decide) hs)
theorem sr_f_Arrays_fill_c6 {σ0 : zS} {N : Nat} {σ : zS} {x2 : Int32}  (hs : FR2 σ0 σ) : zp (zf_Arrays_fill_c6 N σ x2) (fun r => FR2 σ0 r) := by
  unfold zf_Arrays_fill_c6
  exact sr_b_Arrays_fill_c6_5  _ _ _ _ _ hs
theorem sr_f_Numbers_add_c2 {σ0 : zS} {σ : zS} {x1 : Int32}  (hs : FR2 σ0 σ) : zp (zf_Numbers_add_c2 σ x1) (fun r => FR2 σ0 r) := by
  unfold zf_Numbers_add_c2
  refine zp_ite (fun _ => ?_) fun _ => ?_
  ·
    exact zp_some hs
  ·
    refine zp_ite (fun _ => ?_) fun _ => ?_
    ·
      exact zp_some hs
    ·
      refine zp_chk fun _ => ?_
      exact zp_some (FR2.up (by decide) (FR2.up (by decide) hs))
theorem sr_f_Numbers_add_c3 {σ0 : zS} {σ : zS} {x1 : Int32}  (hs : FR2 σ0 σ) : zp (zf_Numbers_add_c3 σ x1) (fun r => FR2 σ0 r) := by
  unfold zf_Numbers_add_c3
  refine zp_ite (fun _ => ?_) fun _ => ?_
  ·
    exact zp_some hs
  ·
    refine zp_ite (fun _ => ?_) fun _ => ?_
    ·
      exact zp_some hs
    ·
      refine zp_chk fun _ => ?_
      exact zp_some (FR2.up (by decide) (FR2.up (by decide) hs))
theorem sr_f_Outcomes_note {σ0 : zS} {N : Nat} {σ : zS} {x1 : Int32} {x2 : Int32}  (hs : FR2 σ0 σ) : zp (zf_Outcomes_note N σ x1 x2) (fun r => FR2 σ0 r) := by
  unfold zf_Outcomes_note
  refine zp_bind fun r1 _ => ?_
  refine zp_chk fun _ => ?_
  refine zp_ite (fun _ => ?_) fun _ => ?_
  ·
    exact zp_some hs
  ·
    refine zp_bind (zp_mono (sr_f_Numbers_add_c2  hs) fun r4 hr4 => ?_)
    refine zp_bind (zp_mono (sr_f_Numbers_add_c3  hr4) fun r5 hr5 => ?_)
    refine zp_chk fun _ => ?_
    exact zp_some (FR2.up (by decide) hr5)
theorem sr_b_Outcomes_gather_57 {σ0 : zS} {k24 : zS → Int32 → Option (zS)} {N : Nat} {σ : zS} {v2 : Int32} (hk24 : ∀ (y0 : zS) (y1 : Int32), FR2 σ0 y0 → zp (k24 y0 y1) (fun r => FR2 σ0 r)) (hs : FR2 σ0 σ) : zp (zb_Outcomes_gather_57 k24 N σ v2) (fun r => FR2 σ0 r) := by
  unfold zb_Outcomes_gather_57
  exact hk24 _ _ hs
theorem sr_b_Outcomes_gather_24 {σ0 : zS} {N : Nat}  : ∀ (n : Nat) (σ : zS) (v2 : Int32), FR2 σ0 σ → zp (zb_Outcomes_gather_24 N n σ v2) (fun r => FR2 σ0 r) := by
  intro n
  induction n with
  | zero => intro _ _ _; exact zp_none
  | succ n ih =>
    intro σ v2 hs
    rw [zb_Outcomes_gather_24]
    refine zp_ite (fun _ => ?_) fun _ => ?_
    ·
      exact zp_some hs
    ·
      refine zp_bind fun r5 _ => ?_
      refine zp_ite (fun _ => ?_) fun _ => ?_
      ·
        exact sr_b_Outcomes_gather_57 (ih) hs
      ·
        refine zp_bind (zp_mono (sr_f_Space_load  hs) fun r7 hr7 => ?_)
        refine zp_bind fun r8 _ => ?_
        refine zp_bind (zp_mono (sr_f_Outcomes_note  hr7) fun r9 hr9 => ?_)
        exact sr_b_Outcomes_gather_57 (ih) hr9
theorem sr_f_Outcomes_gather {σ0 : zS} {N : Nat} {σ : zS}  (hs : FR2 σ0 σ) : zp (zf_Outcomes_gather N σ) (fun r => FR2 σ0 r) := by
  unfold zf_Outcomes_gather
  refine zp_bind (zp_mono (sr_f_Numbers_clear_c5  hs) fun r1 hr1 => ?_)
  refine zp_bind (zp_mono (sr_f_Numbers_clear_c6  hr1) fun r2 hr2 => ?_)
  refine zp_bind (zp_mono (sr_f_Arrays_fill_c6  hr2) fun r3 hr3 => ?_)
  exact sr_b_Outcomes_gather_24  _ _ _ hr3
theorem sr_f_Findings_noteRace {σ0 : zS} {σ : zS} {x1 : Int32} {x2 : Int32} {x3 : Int32}  (hs : FR2 σ0 σ) : zp (zf_Findings_noteRace σ x1 x2 x3) (fun r => FR2 σ0 r) := by
  unfold zf_Findings_noteRace
  refine zp_bind fun r1 _ => ?_
  refine zp_ite (fun _ => ?_) fun _ => ?_
  ·
    exact zp_some hs
  ·
    refine zp_ite (fun _ => ?_) fun _ => ?_
    ·
      exact zp_some hs
    ·
      refine zp_ite (fun _ => ?_) fun _ => ?_
      ·
        exact zp_some hs
      ·
        refine zp_chk fun _ => ?_
        refine zp_ite (fun _ => ?_) fun _ => ?_
        ·
          exact zp_some hs
        ·
          refine zp_chk fun _ => ?_
          exact zp_some (FR2.up (by decide) hs)
theorem sr_b_Findings_noteRaces_83 {σ0 : zS} {k17 : zS → Int32 → Int32 → Int32 → Option (zS)} {N : Nat} {σ : zS} {v1 : Int32} {v2 : Int32} {v3 : Int32} (hk17 : ∀ (y0 : zS) (y1 : Int32) (y2 : Int32) (y3 : Int32), FR2 σ0 y0 → zp (k17 y0 y1 y2 y3) (fun r => FR2 σ0 r)) (hs : FR2 σ0 σ) : zp (zb_Findings_noteRaces_83 k17 N σ v1 v2 v3) (fun r => FR2 σ0 r) := by
  unfold zb_Findings_noteRaces_83
  exact hk17 _ _ _ _ hs
theorem sr_b_Findings_noteRaces_17 {σ0 : zS} {k2 : zS → Int32 → Int32 → Option (zS)} {N : Nat} (hk2 : ∀ (y0 : zS) (y1 : Int32) (y2 : Int32), FR2 σ0 y0 → zp (k2 y0 y1 y2) (fun r => FR2 σ0 r)) : ∀ (n : Nat) (σ : zS) (v1 : Int32) (v2 : Int32) (v3 : Int32), FR2 σ0 σ → zp (zb_Findings_noteRaces_17 k2 N n σ v1 v2 v3) (fun r => FR2 σ0 r) := by
  intro n
  induction n with
  | zero => intro _ _ _ _ _; exact zp_none
  | succ n ih =>
    intro σ v1 v2 v3 hs
    rw [zb_Findings_noteRaces_17]
    refine zp_ite (fun _ => ?_) fun _ => ?_
    ·
      exact hk2 _ _ _ hs
    ·
      refine zp_bind fun r3 _ => ?_
      refine zp_ite (fun _ => ?_) fun _ => ?_
      ·
        exact sr_b_Findings_noteRaces_83 (ih) hs
      ·
        refine zp_bind fun r5 _ => ?_
        refine zp_ite (fun _ => ?_) fun _ => ?_
        ·
          exact sr_b_Findings_noteRaces_83 (ih) hs
        ·
          refine zp_bind fun r7 _ => ?_
          refine zp_bind fun r8 _ => ?_
          refine zp_bind (zp_mono (sr_f_Findings_noteRace  hs) fun r9 hr9 => ?_)
          exact sr_b_Findings_noteRaces_83 (ih) hr9
theorem sr_b_Findings_noteRaces_2 {σ0 : zS} {N : Nat}  : ∀ (n : Nat) (σ : zS) (v1 : Int32) (v2 : Int32), FR2 σ0 σ → zp (zb_Findings_noteRaces_2 N n σ v1 v2) (fun r => FR2 σ0 r) := by
  intro n
  induction n with
  | zero => intro _ _ _ _; exact zp_none
  | succ n ih =>
    intro σ v1 v2 hs
    rw [zb_Findings_noteRaces_2]
    refine zp_ite (fun _ => ?_) fun _ => ?_
    ·
      exact zp_some hs
    ·
      exact sr_b_Findings_noteRaces_17 (ih) _ _ _ _ _ hs
theorem sr_f_Findings_noteRaces {σ0 : zS} {N : Nat} {σ : zS} {x1 : Int32}  (hs : FR2 σ0 σ) : zp (zf_Findings_noteRaces N σ x1) (fun r => FR2 σ0 r) := by
  unfold zf_Findings_noteRaces
  exact sr_b_Findings_noteRaces_2  _ _ _ _ hs
theorem sr_f_Numbers_add_c4 {σ0 : zS} {σ : zS} {x1 : Int32}  (hs : FR2 σ0 σ) : zp (zf_Numbers_add_c4 σ x1) (fun r => FR2 σ0 r) := by
  unfold zf_Numbers_add_c4
  refine zp_ite (fun _ => ?_) fun _ => ?_
  ·
    exact zp_some hs
  ·
    refine zp_ite (fun _ => ?_) fun _ => ?_
    ·
      exact zp_some hs
    ·
      refine zp_chk fun _ => ?_
      exact zp_some (FR2.up (by decide) (FR2.up (by decide) hs))
theorem sr_f_Numbers_add_c5 {σ0 : zS} {σ : zS} {x1 : Int32}  (hs : FR2 σ0 σ) : zp (zf_Numbers_add_c5 σ x1) (fun r => FR2 σ0 r) := by
  unfold zf_Numbers_add_c5
  refine zp_ite (fun _ => ?_) fun _ => ?_
  ·
    exact zp_some hs
  ·
    refine zp_ite (fun _ => ?_) fun _ => ?_
    ·
      exact zp_some hs
    ·
      refine zp_chk fun _ => ?_
      exact zp_some (FR2.up (by decide) (FR2.up (by decide) hs))
theorem sr_f_Numbers_add_c6 {σ0 : zS} {σ : zS} {x1 : Int32}  (hs : FR2 σ0 σ) : zp (zf_Numbers_add_c6 σ x1) (fun r => FR2 σ0 r) := by
  unfold zf_Numbers_add_c6
  refine zp_ite (fun _ => ?_) fun _ => ?_
  ·
    exact zp_some hs
  ·
    refine zp_ite (fun _ => ?_) fun _ => ?_
    ·
      exact zp_some hs
    ·
      refine zp_chk fun _ => ?_
      exact zp_some (FR2.up (by decide) (FR2.up (by decide) hs))
theorem sr_b_Findings_gather_97 {σ0 : zS} {k31 : zS → Int32 → Option (zS)} {N : Nat} {σ : zS} {v2 : Int32} (hk31 : ∀ (y0 : zS) (y1 : Int32), FR2 σ0 y0 → zp (k31 y0 y1) (fun r => FR2 σ0 r)) (hs : FR2 σ0 σ) : zp (zb_Findings_gather_97 k31 N σ v2) (fun r => FR2 σ0 r) := by
  unfold zb_Findings_gather_97
  refine zp_bind (zp_mono (sr_f_Findings_noteRaces  hs) fun r13 hr13 => ?_)
  exact hk31 _ _ hr13
theorem sr_b_Findings_gather_91_1 {σ0 : zS} {k31 : zS → Int32 → Option (zS)} {N : Nat} {σ : zS} {v2 : Int32} (hk31 : ∀ (y0 : zS) (y1 : Int32), FR2 σ0 y0 → zp (k31 y0 y1) (fun r => FR2 σ0 r)) (hs : FR2 σ0 σ) : zp (zb_Findings_gather_91_1 k31 N σ v2) (fun r => FR2 σ0 r) := by
  unfold zb_Findings_gather_91_1
  refine zp_bind (zp_mono (sr_f_Numbers_add_c5  hs) fun r17 hr17 => ?_)
  exact sr_b_Findings_gather_97 (hk31) hr17
theorem sr_b_Findings_gather_91 {σ0 : zS} {k31 : zS → Int32 → Option (zS)} {N : Nat} {σ : zS} {v2 : Int32} (hk31 : ∀ (y0 : zS) (y1 : Int32), FR2 σ0 y0 → zp (k31 y0 y1) (fun r => FR2 σ0 r)) (hs : FR2 σ0 σ) : zp (zb_Findings_gather_91 k31 N σ v2) (fun r => FR2 σ0 r) := by
  unfold zb_Findings_gather_91
  refine zp_bind (zp_mono (sr_f_Numbers_add_c4  hs) fun r16 hr16 => ?_)
  exact sr_b_Findings_gather_97 (hk31) hr16
theorem sr_b_Findings_gather_62 {σ0 : zS} {k31 : zS → Int32 → Option (zS)} {N : Nat} {σ : zS} {v2 : Int32} (hk31 : ∀ (y0 : zS) (y1 : Int32), FR2 σ0 y0 → zp (k31 y0 y1) (fun r => FR2 σ0 r)) (hs : FR2 σ0 σ) : zp (zb_Findings_gather_62 k31 N σ v2) (fun r => FR2 σ0 r) := by
  unfold zb_Findings_gather_62
  refine zp_bind fun r11 _ => ?_
  refine zp_ite (fun _ => ?_) fun _ => ?_
  ·
    exact sr_b_Findings_gather_97 (hk31) hs
  ·
    refine zp_bind fun r14 _ => ?_
    refine zp_ite (fun _ => ?_) fun _ => ?_
    ·
      exact sr_b_Findings_gather_91 (hk31) hs
    ·
      exact sr_b_Findings_gather_91_1 (hk31) hs
theorem sr_b_Findings_gather_31 {σ0 : zS} {N : Nat}  : ∀ (n : Nat) (σ : zS) (v2 : Int32), FR2 σ0 σ → zp (zb_Findings_gather_31 N n σ v2) (fun r => FR2 σ0 r) := by
  intro n
  induction n with
  | zero => intro _ _ _; exact zp_none
  | succ n ih =>
    intro σ v2 hs
    rw [zb_Findings_gather_31]
    refine zp_ite (fun _ => ?_) fun _ => ?_
    ·
      refine zp_bind (zp_mono (sr_f_Findings_listRaces  hs) fun r6 hr6 => ?_)
      refine zp_bind (zp_mono (sr_f_Outcomes_gather  hr6) fun r7 hr7 => ?_)
      exact zp_some hr7
    ·
      refine zp_bind (zp_mono (sr_f_Space_load  hs) fun r8 hr8 => ?_)
      refine zp_bind fun r9 _ => ?_
      refine zp_ite (fun _ => ?_) fun _ => ?_
      ·
        exact sr_b_Findings_gather_62 (ih) hr8
      ·
        refine zp_bind (zp_mono (sr_f_Numbers_add_c6  hr8) fun r18 hr18 => ?_)
        exact sr_b_Findings_gather_62 (ih) hr18
theorem sr_f_Findings_gather {σ0 : zS} {N : Nat} {σ : zS}  (hs : FR2 σ0 σ) : zp (zf_Findings_gather N σ) (fun r => FR2 σ0 r) := by
  unfold zf_Findings_gather
  refine zp_bind (zp_mono (sr_f_Numbers_clear  hs) fun r1 hr1 => ?_)
  refine zp_bind (zp_mono (sr_f_Numbers_clear_c1  hr1) fun r2 hr2 => ?_)
  refine zp_bind (zp_mono (sr_f_Numbers_clear_c2  hr2) fun r3 hr3 => ?_)
  refine zp_bind (zp_mono (sr_f_Arrays_fill_c5  hr3) fun r4 hr4 => ?_)
  exact sr_b_Findings_gather_31  _ _ _ hr4
theorem sq_b_Arrays_fill_c3_5 {σ0 : zS} {N : Nat}  : ∀ (n : Nat) (σ : zS) (v1 : Int32) (v2 : Int32) (v3 : Int32), FR8 σ0 σ → zp (zb_Arrays_fill_c3_5 N n σ v1 v2 v3) (fun r => FR8 σ0 r) := by
  intro n
  induction n with
  | zero => intro _ _ _ _ _; exact zp_none
  | succ n ih =>
    intro σ v1 v2 v3 hs
    rw [zb_Arrays_fill_c3_5]
    refine zp_ite (fun _ => ?_) fun _ => ?_
    ·
      exact zp_some hs
    ·
      refine zp_chk fun _ => ?_
      exact ih _ _ _ _ (FR8.up (by decide) hs)
theorem sq_f_Arrays_fill_c3 {σ0 : zS} {N : Nat} {σ : zS} {x2 : Int32}  (hs : FR8 σ0 σ) : zp (zf_Arrays_fill_c3 N σ x2) (fun r => FR8 σ0 r) := by
  unfold zf_Arrays_fill_c3
  exact sq_b_Arrays_fill_c3_5  _ _ _ _ _ hs
theorem sq_b_Machine_setFirst_50 {σ0 : zS} {k15 : zS → Int32 → Option (zS)} {N : Nat} {σ : zS} {v1 : Int32} {v2 : Int32} (hk15 : ∀ (y0 : zS) (y1 : Int32), FR8 σ0 y0 → zp (k15 y0 y1) (fun r => FR8 σ0 r)) (hs : FR8 σ0 σ) : zp (zb_Machine_setFirst_50 k15 N σ v1 v2) (fun r => FR8 σ0 r) := by
  unfold zb_Machine_setFirst_50
  refine zp_chk fun _ => ?_
  exact hk15 _ _ (FR8.up (by decide) hs)
theorem sq_b_Machine_setFirst_36 {σ0 : zS} {k15 : zS → Int32 → Option (zS)} {N : Nat} {σ : zS} {v1 : Int32} {s0 : Int32} (hk15 : ∀ (y0 : zS) (y1 : Int32), FR8 σ0 y0 → zp (k15 y0 y1) (fun r => FR8 σ0 r)) (hs : FR8 σ0 σ) : zp (zb_Machine_setFirst_36 k15 N σ v1 s0) (fun r => FR8 σ0 r) := by
  unfold zb_Machine_setFirst_36
  refine zp_bind fun r4 _ => ?_
  refine zp_ite (fun _ => ?_) fun _ => ?_
  ·
    exact sq_b_Machine_setFirst_50 (hk15) hs
  ·
    exact sq_b_Machine_setFirst_50 (hk15) hs
theorem sq_b_Machine_setFirst_15 {σ0 : zS} {N : Nat}  : ∀ (n : Nat) (σ : zS) (v1 : Int32), FR8 σ0 σ → zp (zb_Machine_setFirst_15 N n σ v1) (fun r => FR8 σ0 r) := by
  intro n
  induction n with
  | zero => intro _ _ _; exact zp_none
  | succ n ih =>
    intro σ v1 hs
    rw [zb_Machine_setFirst_15]
    refine zp_ite (fun _ => ?_) fun _ => ?_
    ·
      exact zp_some hs
    ·
      refine zp_bind fun r2 _ => ?_
      refine zp_ite (fun _ => ?_) fun _ => ?_
      ·
        exact sq_b_Machine_setFirst_36 (ih) hs
      ·
        exact sq_b_Machine_setFirst_36 (ih) hs
theorem sq_f_Machine_setFirst {σ0 : zS} {N : Nat} {σ : zS}  (hs : FR8 σ0 σ) : zp (zf_Machine_setFirst N σ) (fun r => FR8 σ0 r) := by
  unfold zf_Machine_setFirst
  exact sq_b_Machine_setFirst_15  _ _ _ (FR8.up (by decide) hs)
theorem sq_f_Space_note {σ0 : zS} {N : Nat} {σ : zS} {x1 : Int32}  (hs : FR8 σ0 σ) : zp (zf_Space_note N σ x1) (fun r => FR8 σ0 r.2) := by
  unfold zf_Space_note
  refine zp_bind fun r1 _ => ?_
  refine zp_chk fun _ => ?_
  refine zp_ite (fun _ => ?_) fun _ => ?_
  ·
    refine zp_ite (fun _ => ?_) fun _ => ?_
    ·
      exact zp_some hs
    ·
      refine zp_ite (fun _ => ?_) fun _ => ?_
      ·
        refine zp_chk fun _ => ?_
        refine zp_chk fun _ => ?_
        refine zp_chk fun _ => ?_
        exact zp_some (FR8.up (by decide) (FR8.up (by decide) (FR8.up (by decide) (FR8.cp (by decide) hs))))
      ·
        exact zp_some hs
  ·
    exact zp_some hs
theorem sq_b_Arrays_fill_c4_5 {σ0 : zS} {N : Nat}  : ∀ (n : Nat) (σ : zS) (v1 : Int32) (v2 : Int32) (v3 : Int32), FR8 σ0 σ → zp (zb_Arrays_fill_c4_5 N n σ v1 v2 v3) (fun r => FR8 σ0 r) := by
  intro n
  induction n with
  | zero => intro _ _ _ _ _; exact zp_none
  | succ n ih =>
    intro σ v1 v2 v3 hs
    rw [zb_Arrays_fill_c4_5]
    refine zp_ite (fun _ => ?_) fun _ => ?_
    ·
      exact zp_some hs
    ·
      refine zp_chk fun _ => ?_
      exact ih _ _ _ _ (FR8.up (by decide) hs)
theorem sq_f_Arrays_fill_c4 {σ0 : zS} {N : Nat} {σ : zS} {x2 : Int32}  (hs : FR8 σ0 σ) : zp (zf_Arrays_fill_c4 N σ x2) (fun r => FR8 σ0 r) := by
  unfold zf_Arrays_fill_c4
  exact sq_b_Arrays_fill_c4_5  _ _ _ _ _ hs
theorem sq_b_Machine_load_130 {σ0 : zS} {k34 : zS → Int32 → Option (zS)} {N : Nat} {σ : zS} {v3 : Int32} (hk34 : ∀ (y0 : zS) (y1 : Int32), FR8 σ0 y0 → zp (k34 y0 y1) (fun r => FR8 σ0 r)) (hs : FR8 σ0 σ) : zp (zb_Machine_load_130 k34 N σ v3) (fun r => FR8 σ0 r) := by
  unfold zb_Machine_load_130
  exact hk34 _ _ hs
theorem sq_b_Machine_load_124 {σ0 : zS} {k95 : zS → Int32 → Int32 → Int32 → Option (zS)} {N : Nat} {σ : zS} {v3 : Int32} {v5 : Int32} {v6 : Int32} (hk95 : ∀ (y0 : zS) (y1 : Int32) (y2 : Int32) (y3 : Int32), FR8 σ0 y0 → zp (k95 y0 y1 y2 y3) (fun r => FR8 σ0 r)) (hs : FR8 σ0 σ) : zp (zb_Machine_load_124 k95 N σ v3 v5 v6) (fun r => FR8 σ0 r) := by
  unfold zb_Machine_load_124
  exact hk95 _ _ _ _ hs
theorem sq_b_Machine_load_95 {σ0 : zS} {k34 : zS → Int32 → Option (zS)} {N : Nat} (hk34 : ∀ (y0 : zS) (y1 : Int32), FR8 σ0 y0 → zp (k34 y0 y1) (fun r => FR8 σ0 r)) : ∀ (n : Nat) (σ : zS) (v3 : Int32) (v5 : Int32) (v6 : Int32), FR8 σ0 σ → zp (zb_Machine_load_95 k34 N n σ v3 v5 v6) (fun r => FR8 σ0 r) := by
  intro n
  induction n with
  | zero => intro _ _ _ _ _; exact zp_none
  | succ n ih =>
    intro σ v3 v5 v6 hs
    rw [zb_Machine_load_95]
    refine zp_ite (fun _ => ?_) fun _ => ?_
    ·
      exact sq_b_Machine_load_130 (hk34) hs
    ·
      refine zp_ite (fun _ => ?_) fun _ => ?_
      ·
        exact sq_b_Machine_load_130 (hk34) hs
      ·
        refine zp_ite (fun _ => ?_) fun _ => ?_
        ·
          exact sq_b_Machine_load_124 (ih) hs
        ·
          refine zp_chk fun _ => ?_
          exact sq_b_Machine_load_124 (ih) (FR8.up (by decide) hs)
theorem sq_b_Machine_load_34 {σ0 : zS} {N : Nat}  : ∀ (n : Nat) (σ : zS) (v3 : Int32), FR8 σ0 σ → zp (zb_Machine_load_34 N n σ v3) (fun r => FR8 σ0 r) := by
  intro n
  induction n with
  | zero => intro _ _ _; exact zp_none
  | succ n ih =>
    intro σ v3 hs
    rw [zb_Machine_load_34]
    refine zp_ite (fun _ => ?_) fun _ => ?_
    ·
      exact zp_some hs
    ·
      refine zp_chk fun _ => ?_
      refine zp_chk fun _ => ?_
      refine zp_bind fun r8 _ => ?_
      refine zp_chk fun _ => ?_
      refine zp_bind fun r10 _ => ?_
      exact sq_b_Machine_load_95 (ih) _ _ _ _ _ (FR8.up (by decide) (FR8.up (by decide) hs))
theorem sq_f_Machine_load {σ0 : zS} {N : Nat} {σ : zS} {x2 : Int32}  (hs : FR8 σ0 σ) : zp (zf_Machine_load N σ x2) (fun r => FR8 σ0 r) := by
  unfold zf_Machine_load
  refine zp_ite (fun _ => ?_) fun _ => ?_
  ·
    exact zp_some hs
  ·
    refine zp_ite (fun _ => ?_) fun _ => ?_
    ·
      refine zp_chk fun _ => ?_
      refine zp_bind (zp_mono (sq_f_Arrays_fill_c4  (FR8.cp (by decide) hs)) fun r4 hr4 => ?_)
      exact sq_b_Machine_load_34  _ _ _ hr4
    ·
      exact zp_some hs
theorem sq_f_Space_load {σ0 : zS} {N : Nat} {σ : zS} {x1 : Int32}  (hs : FR8 σ0 σ) : zp (zf_Space_load N σ x1) (fun r => FR8 σ0 r) := by
  unfold zf_Space_load
  refine zp_bind fun r1 _ => ?_
  refine zp_ite (fun _ => ?_) fun _ => ?_
  ·
    exact zp_some hs
  ·
    refine zp_bind (zp_mono (sq_f_Machine_load  hs) fun r3 hr3 => ?_)
    exact zp_some hr3
theorem sq_b_Machine_place_30 {σ0 : zS} {σ : zS} {v1 : Int32} {v2 : Int32} {v3 : Int32} {s0 : Int32}  (hs : FR8 σ0 σ) : zp (zb_Machine_place_30 σ v1 v2 v3 s0) (fun r => FR8 σ0 r) := by
  unfold zb_Machine_place_30
  refine zp_ite (fun _ => ?_) fun _ => ?_
  ·
    exact zp_some hs
  ·
    refine zp_ite (fun _ => ?_) fun _ => ?_
    ·
      exact zp_some hs
    ·
      refine zp_chk fun _ => ?_
      refine zp_chk fun _ => ?_
      exact zp_some (FR8.up (by decide) hs)
theorem sq_b_Machine_place_15 {σ0 : zS} {σ : zS} {v1 : Int32} {v2 : Int32} {v3 : Int32} {s0 : Int32}  (hs : FR8 σ0 σ) : zp (zb_Machine_place_15 σ v1 v2 v3 s0) (fun r => FR8 σ0 r) := by
  unfold zb_Machine_place_15
  refine zp_ite (fun _ => ?_) fun _ => ?_
  ·
    exact sq_b_Machine_place_30  hs
  ·
    exact sq_b_Machine_place_30  hs
theorem sq_b_Machine_place_10 {σ0 : zS} {σ : zS} {v1 : Int32} {v2 : Int32} {v3 : Int32}  (hs : FR8 σ0 σ) : zp (zb_Machine_place_10 σ v1 v2 v3) (fun r => FR8 σ0 r) := by
  unfold zb_Machine_place_10
  exact sq_b_Machine_place_15  hs
theorem sq_f_Machine_place {σ0 : zS} {σ : zS} {x1 : Int32} {x2 : Int32} {x3 : Int32}  (hs : FR8 σ0 σ) : zp (zf_Machine_place σ x1 x2 x3) (fun r => FR8 σ0 r) := by
  unfold zf_Machine_place
  refine zp_ite (fun _ => ?_) fun _ => ?_
  ·
    exact sq_b_Machine_place_10  hs
  ·
    refine zp_ite (fun _ => ?_) fun _ => ?_
    ·
      exact sq_b_Machine_place_15  hs
    ·
      exact sq_b_Machine_place_10  hs
theorem sq_b_Machine_goTo_49 {σ0 : zS} {σ : zS} {s0 : Int32} {s1 : Int32} {s2 : Int32}  (hs : FR8 σ0 σ) : zp (zb_Machine_goTo_49 σ s0 s1 s2) (fun r => FR8 σ0 r) := by
  unfold zb_Machine_goTo_49
  refine zp_bind (zp_mono (sq_f_Machine_place  hs) fun r4 hr4 => ?_)
  exact zp_some hr4
theorem sq_b_Machine_goTo_40 {σ0 : zS} {σ : zS} {v3 : Int32} {s0 : Int32} {s1 : Int32}  (hs : FR8 σ0 σ) : zp (zb_Machine_goTo_40 σ v3 s0 s1) (fun r => FR8 σ0 r) := by
  unfold zb_Machine_goTo_40
  refine zp_ite (fun _ => ?_) fun _ => ?_
  ·
    exact sq_b_Machine_goTo_49  hs
  ·
    exact sq_b_Machine_goTo_49  hs
theorem sq_b_Machine_goTo_21 {σ0 : zS} {σ : zS} {v1 : Int32} {v2 : Int32} {s0 : Int32}  (hs : FR8 σ0 σ) : zp (zb_Machine_goTo_21 σ v1 v2 s0) (fun r => FR8 σ0 r) := by
  unfold zb_Machine_goTo_21
  refine zp_ite (fun _ => ?_) fun _ => ?_
  ·
    exact sq_b_Machine_goTo_40  hs
  ·
    refine zp_bind fun r5 _ => ?_
    exact sq_b_Machine_goTo_40  hs
theorem sq_b_Machine_goTo_16 {σ0 : zS} {σ : zS} {v1 : Int32} {v2 : Int32}  (hs : FR8 σ0 σ) : zp (zb_Machine_goTo_16 σ v1 v2) (fun r => FR8 σ0 r) := by
  unfold zb_Machine_goTo_16
  exact sq_b_Machine_goTo_21  hs
theorem sq_f_Machine_goTo {σ0 : zS} {σ : zS} {x1 : Int32} {x2 : Int32}  (hs : FR8 σ0 σ) : zp (zf_Machine_goTo σ x1 x2) (fun r => FR8 σ0 r) := by
  unfold zf_Machine_goTo
  refine zp_ite (fun _ => ?_) fun _ => ?_
  ·
    exact sq_b_Machine_goTo_16  hs
  ·
    refine zp_bind fun r6 _ => ?_
    refine zp_ite (fun _ => ?_) fun _ => ?_
    ·
      exact sq_b_Machine_goTo_21  hs
    ·
      exact sq_b_Machine_goTo_16  hs
theorem sq_f_Machine_startThread {σ0 : zS} {σ : zS} {x1 : Int32}  (hs : FR8 σ0 σ) : zp (zf_Machine_startThread σ x1) (fun r => FR8 σ0 r.2) := by
  unfold zf_Machine_startThread
  refine zp_bind fun r1 _ => ?_
  refine zp_ite (fun _ => ?_) fun _ => ?_
  ·
    refine zp_bind (zp_mono (sq_f_Machine_goTo  hs) fun r3 hr3 => ?_)
    exact zp_some hr3
  ·
    exact zp_some hs
theorem sq_b_Machine_signal_121 {σ0 : zS} {k49 : zS → Int32 → Int32 → Int32 → Int32 → Option (Int32 × zS)} {N : Nat} {σ : zS} {v3 : Int32} {v4 : Int32} {v5 : Int32} {v6 : Int32} (hk49 : ∀ (y0 : zS) (y1 : Int32) (y2 : Int32) (y3 : Int32) (y4 : Int32), FR8 σ0 y0 → zp (k49 y0 y1 y2 y3 y4) (fun r => FR8 σ0 r.2)) (hs : FR8 σ0 σ) : zp (zb_Machine_signal_121 k49 N σ v3 v4 v5 v6) (fun r => FR8 σ0 r.2) := by
  unfold zb_Machine_signal_121
  exact hk49 _ _ _ _ _ hs
theorem sq_b_Machine_signal_119 {σ0 : zS} {k49 : zS → Int32 → Int32 → Int32 → Int32 → Option (Int32 × zS)} {N : Nat} {σ : zS} {v3 : Int32} {v4 : Int32} {v6 : Int32} {s0 : Int32} (hk49 : ∀ (y0 : zS) (y1 : Int32) (y2 : Int32) (y3 : Int32) (y4 : Int32), FR8 σ0 y0 → zp (k49 y0 y1 y2 y3 y4) (fun r => FR8 σ0 r.2)) (hs : FR8 σ0 σ) : zp (zb_Machine_signal_119 k49 N σ v3 v4 v6 s0) (fun r => FR8 σ0 r.2) := by
  unfold zb_Machine_signal_119
  exact sq_b_Machine_signal_121 (hk49) hs
theorem sq_b_Machine_signal_49 {σ0 : zS} {N : Nat}  : ∀ (n : Nat) (σ : zS) (v3 : Int32) (v4 : Int32) (v5 : Int32) (v6 : Int32), FR8 σ0 σ → zp (zb_Machine_signal_49 N n σ v3 v4 v5 v6) (fun r => FR8 σ0 r.2) := by
  intro n
  induction n with
  | zero => intro _ _ _ _ _ _; exact zp_none
  | succ n ih =>
    intro σ v3 v4 v5 v6 hs
    rw [zb_Machine_signal_49]
    refine zp_ite (fun _ => ?_) fun _ => ?_
    ·
      exact zp_some hs
    ·
      refine zp_ite (fun _ => ?_) fun _ => ?_
      ·
        exact zp_some hs
      ·
        refine zp_bind fun r8 _ => ?_
        refine zp_ite (fun _ => ?_) fun _ => ?_
        ·
          exact sq_b_Machine_signal_121 (ih) hs
        ·
          refine zp_bind fun r10 _ => ?_
          refine zp_chk fun _ => ?_
          refine zp_ite (fun _ => ?_) fun _ => ?_
          ·
            exact sq_b_Machine_signal_121 (ih) hs
          ·
            refine zp_bind fun r13 _ => ?_
            refine zp_bind (zp_mono (sq_f_Machine_place  hs) fun r14 hr14 => ?_)
            refine zp_ite (fun _ => ?_) fun _ => ?_
            ·
              exact sq_b_Machine_signal_119 (ih) hr14
            ·
              exact sq_b_Machine_signal_119 (ih) hr14
theorem sq_b_Machine_signal_44 {σ0 : zS} {N : Nat} {σ : zS} {v3 : Int32} {v4 : Int32} {s0 : Int32}  (hs : FR8 σ0 σ) : zp (zb_Machine_signal_44 N σ v3 v4 s0) (fun r => FR8 σ0 r.2) := by
  unfold zb_Machine_signal_44
  exact sq_b_Machine_signal_49  _ _ _ _ _ _ hs
theorem sq_f_Machine_signal {σ0 : zS} {N : Nat} {σ : zS} {x1 : Int32} {x2 : Int32}  (hs : FR8 σ0 σ) : zp (zf_Machine_signal N σ x1 x2) (fun r => FR8 σ0 r.2) := by
  unfold zf_Machine_signal
  refine zp_chk fun _ => ?_
  refine zp_chk fun _ => ?_
  refine zp_bind fun r3 _ => ?_
  refine zp_ite (fun _ => ?_) fun _ => ?_
  ·
    refine zp_ite (fun _ => ?_) fun _ => ?_
    ·
      exact sq_b_Machine_signal_44  hs
    ·
      exact sq_b_Machine_signal_44  hs
  ·
    exact zp_some hs
theorem sq_b_Machine_work_150 {σ0 : zS} {σ : zS} {v4 : Int32} {v6 : Int32} {s0 : Int32} {s1 : Int32}  (hs : FR8 σ0 σ) : zp (zb_Machine_work_150 σ v4 v6 s0 s1) (fun r => FR8 σ0 r) := by
  unfold zb_Machine_work_150
  refine zp_ite (fun _ => ?_) fun _ => ?_
  ·
    exact zp_some hs
  ·
    refine zp_ite (fun _ => ?_) fun _ => ?_
    ·
      exact zp_some hs
    ·
      refine zp_chk fun _ => ?_
      refine zp_chk fun _ => ?_
      exact zp_some (FR8.up (by decide) hs)
theorem sq_b_Machine_work_121 {σ0 : zS} {σ : zS} {v2 : Int32} {v3 : Int32} {v4 : Int32} {s0 : Int32}  (hs : FR8 σ0 σ) : zp (zb_Machine_work_121 σ v2 v3 v4 s0) (fun r => FR8 σ0 r) := by
  unfold zb_Machine_work_121
  refine zp_ite (fun _ => ?_) fun _ => ?_
  ·
    refine zp_chk fun _ => ?_
    exact sq_b_Machine_work_150  hs
  ·
    refine zp_chk fun _ => ?_
    exact sq_b_Machine_work_150  hs
theorem sq_b_Machine_work_109 {σ0 : zS} {σ : zS} {v1 : Int32} {v2 : Int32} {v3 : Int32} {v4 : Int32}  (hs : FR8 σ0 σ) : zp (zb_Machine_work_109 σ v1 v2 v3 v4) (fun r => FR8 σ0 r) := by
  unfold zb_Machine_work_109
  refine zp_ite (fun _ => ?_) fun _ => ?_
  ·
    exact sq_b_Machine_work_121  hs
  ·
    exact sq_b_Machine_work_121  hs
theorem sq_f_Machine_work {σ0 : zS} {σ : zS} {x1 : Int32} {x2 : Int32}  (hs : FR8 σ0 σ) : zp (zf_Machine_work σ x1 x2) (fun r => FR8 σ0 r) := by
  unfold zf_Machine_work
  refine zp_chk fun _ => ?_
  refine zp_chk fun _ => ?_
  refine zp_bind fun r3 _ => ?_
  refine zp_chk fun _ => ?_
  refine zp_bind fun r5 _ => ?_
  refine zp_ite (fun _ => ?_) fun _ => ?_
  ·
    refine zp_chk fun _ => ?_
    refine zp_ite (fun _ => ?_) fun _ => ?_
    ·
      refine zp_chk fun _ => ?_
      refine zp_ite (fun _ => ?_) fun _ => ?_
      ·
        exact sq_b_Machine_work_109  hs
      ·
        exact sq_b_Machine_work_109  hs
    ·
      exact sq_b_Machine_work_109  hs
  ·
    refine zp_chk fun _ => ?_
    refine zp_bind fun r20 _ => ?_
    exact sq_b_Machine_work_109  hs
theorem sq_b_Machine_move_317 {σ0 : zS} {N : Nat} {σ : zS} {v1 : Int32} {v6 : Int32}  (hs : FR8 σ0 σ) : zp (zb_Machine_move_317 N σ v1 v6) (fun r => FR8 σ0 r) := by
  unfold zb_Machine_move_317
  refine zp_bind (zp_mono (sq_f_Machine_goTo  hs) fun r28 hr28 => ?_)
  exact zp_some hr28
theorem sq_b_Machine_move_261 {σ0 : zS} {N : Nat} {σ : zS} {v1 : Int32} {v3 : Int32} {v5 : Int32} {v6 : Int32}  (hs : FR8 σ0 σ) : zp (zb_Machine_move_261 N σ v1 v3 v5 v6) (fun r => FR8 σ0 r) := by
  unfold zb_Machine_move_261
  refine zp_ite (fun _ => ?_) fun _ => ?_
  ·
    refine zp_bind fun r26 _ => ?_
    refine zp_ite (fun _ => ?_) fun _ => ?_
    ·
      exact sq_b_Machine_move_317  hs
    ·
      refine zp_chk fun _ => ?_
      refine zp_ite (fun _ => ?_) fun _ => ?_
      ·
        exact sq_b_Machine_move_317  hs
      ·
        refine zp_bind fun r31 _ => ?_
        refine zp_bind (zp_mono (sq_f_Machine_place  hs) fun r32 hr32 => ?_)
        exact zp_some hr32
  ·
    refine zp_bind fun r33 _ => ?_
    refine zp_bind (zp_mono (sq_f_Machine_place  hs) fun r34 hr34 => ?_)
    exact zp_some hr34
theorem sq_b_Machine_move_216 {σ0 : zS} {N : Nat} {σ : zS} {v1 : Int32} {v3 : Int32} {v5 : Int32} {s0 : Int32}  (hs : FR8 σ0 σ) : zp (zb_Machine_move_216 N σ v1 v3 v5 s0) (fun r => FR8 σ0 r) := by
  unfold zb_Machine_move_216
  exact sq_b_Machine_move_261  hs
theorem sq_b_Machine_move_116 {σ0 : zS} {N : Nat} {σ : zS} {v1 : Int32} {v3 : Int32} {v5 : Int32} {v6 : Int32} {s0 : Int32}  (hs : FR8 σ0 σ) : zp (zb_Machine_move_116 N σ v1 v3 v5 v6 s0) (fun r => FR8 σ0 r) := by
  unfold zb_Machine_move_116
  refine zp_ite (fun _ => ?_) fun _ => ?_
  ·
    refine zp_bind (zp_mono (sq_f_Machine_work  hs) fun r49 hr49 => ?_)
    exact sq_b_Machine_move_261  hr49
  ·
    refine zp_ite (fun _ => ?_) fun _ => ?_
    ·
      refine zp_bind (zp_mono (sq_f_Machine_work  hs) fun r48 hr48 => ?_)
      exact sq_b_Machine_move_261  hr48
    ·
      refine zp_ite (fun _ => ?_) fun _ => ?_
      ·
        refine zp_bind (zp_mono (sq_f_Machine_work  hs) fun r47 hr47 => ?_)
        exact sq_b_Machine_move_261  hr47
      ·
        refine zp_ite (fun _ => ?_) fun _ => ?_
        ·
          exact sq_b_Machine_move_261  hs
        ·
          refine zp_ite (fun _ => ?_) fun _ => ?_
          ·
            exact sq_b_Machine_move_261  hs
          ·
            refine zp_ite (fun _ => ?_) fun _ => ?_
            ·
              refine zp_bind fun r44 _ => ?_
              refine zp_ite (fun _ => ?_) fun _ => ?_
              ·
                refine zp_chk fun _ => ?_
                exact sq_b_Machine_move_216  hs
              ·
                exact sq_b_Machine_move_216  hs
            ·
              refine zp_ite (fun _ => ?_) fun _ => ?_
              ·
                refine zp_bind fun r41 _ => ?_
                refine zp_ite (fun _ => ?_) fun _ => ?_
                ·
                  refine zp_chk fun _ => ?_
                  exact sq_b_Machine_move_216  hs
                ·
                  exact sq_b_Machine_move_216  hs
              ·
                refine zp_ite (fun _ => ?_) fun _ => ?_
                ·
                  refine zp_bind (zp_mono (sq_f_Machine_signal  hs) fun r40 hr40 => ?_)
                  exact sq_b_Machine_move_261  hr40
                ·
                  refine zp_ite (fun _ => ?_) fun _ => ?_
                  ·
                    refine zp_bind (zp_mono (sq_f_Machine_signal  hs) fun r39 hr39 => ?_)
                    exact sq_b_Machine_move_261  hr39
                  ·
                    refine zp_ite (fun _ => ?_) fun _ => ?_
                    ·
                      refine zp_bind (zp_mono (sq_f_Machine_signal  hs) fun r38 hr38 => ?_)
                      exact sq_b_Machine_move_261  hr38
                    ·
                      refine zp_ite (fun _ => ?_) fun _ => ?_
                      ·
                        refine zp_chk fun _ => ?_
                        refine zp_bind (zp_mono (sq_f_Machine_startThread  hs) fun r37 hr37 => ?_)
                        exact sq_b_Machine_move_261  hr37
                      ·
                        refine zp_ite (fun _ => ?_) fun _ => ?_
                        ·
                          exact sq_b_Machine_move_261  hs
                        ·
                          refine zp_ite (fun _ => ?_) fun _ => ?_
                          ·
                            refine zp_bind fun r35 _ => ?_
                            exact sq_b_Machine_move_261  hs
                          ·
                            exact sq_b_Machine_move_261  hs
theorem sq_b_Machine_move_39 {σ0 : zS} {N : Nat} {σ : zS} {v1 : Int32} {v3 : Int32} {s0 : Int32}  (hs : FR8 σ0 σ) : zp (zb_Machine_move_39 N σ v1 v3 s0) (fun r => FR8 σ0 r) := by
  unfold zb_Machine_move_39
  refine zp_chk fun _ => ?_
  refine zp_chk fun _ => ?_
  refine zp_chk fun _ => ?_
  refine zp_bind fun r9 _ => ?_
  refine zp_ite (fun _ => ?_) fun _ => ?_
  ·
    refine zp_chk fun _ => ?_
    exact sq_b_Machine_move_116  (FR8.up (by decide) (FR8.cp (by decide) hs))
  ·
    exact sq_b_Machine_move_116  (FR8.up (by decide) (FR8.cp (by decide) hs))
theorem sq_b_Machine_move_38 {σ0 : zS} {N : Nat} {σ : zS} {v1 : Int32} {v3 : Int32}  (hs : FR8 σ0 σ) : zp (zb_Machine_move_38 N σ v1 v3) (fun r => FR8 σ0 r) := by
  unfold zb_Machine_move_38
  exact sq_b_Machine_move_39  hs
theorem sq_f_Machine_move {σ0 : zS} {N : Nat} {σ : zS} {x1 : Int32} {x2 : Int32}  (hs : FR8 σ0 σ) : zp (zf_Machine_move N σ x1 x2) (fun r => FR8 σ0 r) := by
  unfold zf_Machine_move
  refine zp_ite (fun _ => ?_) fun _ => ?_
  ·
    exact zp_some hs
  ·
    refine zp_ite (fun _ => ?_) fun _ => ?_
    ·
      refine zp_bind fun r3 _ => ?_
      refine zp_ite (fun _ => ?_) fun _ => ?_
      ·
        exact sq_b_Machine_move_38  hs
      ·
        refine zp_chk fun _ => ?_
        refine zp_ite (fun _ => ?_) fun _ => ?_
        ·
          exact sq_b_Machine_move_38  hs
        ·
          exact sq_b_Machine_move_39  hs
    ·
      exact zp_some hs
theorem sq_b_Space_exploreFrom_95 {σ0 : zS} {k20 : zS → Int32 → Int32 → Int32 → Int32 → Int32 → Option (Int32 × zS)} {N : Nat} {σ : zS} {v1 : Int32} {v2 : Int32} {v3 : Int32} {v4 : Int32} {v5 : Int32} (hk20 : ∀ (y0 : zS) (y1 : Int32) (y2 : Int32) (y3 : Int32) (y4 : Int32) (y5 : Int32), FR8 σ0 y0 → zp (k20 y0 y1 y2 y3 y4 y5) (fun r => FR8 σ0 r.2)) (hs : FR8 σ0 σ) : zp (zb_Space_exploreFrom_95 k20 N σ v1 v2 v3 v4 v5) (fun r => FR8 σ0 r.2) := by
  unfold zb_Space_exploreFrom_95
  exact hk20 _ _ _ _ _ _ hs
theorem sq_b_Space_exploreFrom_48 {σ0 : zS} {k20 : zS → Int32 → Int32 → Int32 → Int32 → Int32 → Option (Int32 × zS)} {N : Nat} {σ : zS} {v1 : Int32} {v2 : Int32} {v3 : Int32} {v4 : Int32} {v5 : Int32} {s0 : Int32} (hk20 : ∀ (y0 : zS) (y1 : Int32) (y2 : Int32) (y3 : Int32) (y4 : Int32) (y5 : Int32), FR8 σ0 y0 → zp (k20 y0 y1 y2 y3 y4 y5) (fun r => FR8 σ0 r.2)) (hs : FR8 σ0 σ) : zp (zb_Space_exploreFrom_48 k20 N σ v1 v2 v3 v4 v5 s0) (fun r => FR8 σ0 r.2) := by
  unfold zb_Space_exploreFrom_48
  refine zp_ite (fun _ => ?_) fun _ => ?_
  ·
    exact sq_b_Space_exploreFrom_95 (hk20) hs
  ·
    refine zp_bind fun r9 _ => ?_
    refine zp_ite (fun _ => ?_) fun _ => ?_
    ·
      exact sq_b_Space_exploreFrom_95 (hk20) hs
    ·
      refine zp_bind (zp_mono (sq_f_Machine_move  hs) fun r11 hr11 => ?_)
      refine zp_bind (zp_mono (sq_f_Space_note  hr11) fun r12 hr12 => ?_)
      refine zp_ite (fun _ => ?_) fun _ => ?_
      ·
        exact sq_b_Space_exploreFrom_95 (hk20) hr12
      ·
        exact zp_some hr12
theorem sq_b_Space_exploreFrom_43 {σ0 : zS} {k20 : zS → Int32 → Int32 → Int32 → Int32 → Int32 → Option (Int32 × zS)} {N : Nat} {σ : zS} {v1 : Int32} {v2 : Int32} {v3 : Int32} {v4 : Int32} {v5 : Int32} (hk20 : ∀ (y0 : zS) (y1 : Int32) (y2 : Int32) (y3 : Int32) (y4 : Int32) (y5 : Int32), FR8 σ0 y0 → zp (k20 y0 y1 y2 y3 y4 y5) (fun r => FR8 σ0 r.2)) (hs : FR8 σ0 σ) : zp (zb_Space_exploreFrom_43 k20 N σ v1 v2 v3 v4 v5) (fun r => FR8 σ0 r.2) := by
  unfold zb_Space_exploreFrom_43
  exact sq_b_Space_exploreFrom_48 (hk20) hs
theorem sq_b_Space_exploreFrom_20 {σ0 : zS} {N : Nat}  : ∀ (n : Nat) (σ : zS) (v1 : Int32) (v2 : Int32) (v3 : Int32) (v4 : Int32) (v5 : Int32), FR8 σ0 σ → zp (zb_Space_exploreFrom_20 N n σ v1 v2 v3 v4 v5) (fun r => FR8 σ0 r.2) := by
  intro n
  induction n with
  | zero => intro _ _ _ _ _ _ _; exact zp_none
  | succ n ih =>
    intro σ v1 v2 v3 v4 v5 hs
    rw [zb_Space_exploreFrom_20]
    refine zp_ite (fun _ => ?_) fun _ => ?_
    ·
      refine zp_bind fun r4 _ => ?_
      refine zp_ite (fun _ => ?_) fun _ => ?_
      ·
        exact zp_some hs
      ·
        refine zp_chk fun _ => ?_
        exact zp_some (FR8.up (by decide) hs)
    ·
      refine zp_ite (fun _ => ?_) fun _ => ?_
      ·
        exact sq_b_Space_exploreFrom_43 (ih) hs
      ·
        refine zp_ite (fun _ => ?_) fun _ => ?_
        ·
          exact sq_b_Space_exploreFrom_48 (ih) hs
        ·
          exact sq_b_Space_exploreFrom_43 (ih) hs
theorem sq_f_Space_exploreFrom {σ0 : zS} {N : Nat} {σ : zS} {x1 : Int32} {x2 : Int32}  (hs : FR8 σ0 σ) : zp (zf_Space_exploreFrom N σ x1 x2) (fun r => FR8 σ0 r.2) := by
  unfold zf_Space_exploreFrom
  refine zp_bind (zp_mono (sq_f_Space_load  hs) fun r1 hr1 => ?_)
  refine zp_bind fun r2 _ => ?_
  exact sq_b_Space_exploreFrom_20  _ _ _ _ _ _ _ hr1
theorem sq_b_Space_explore_28 {σ0 : zS} {N : Nat}  : ∀ (n : Nat) (σ : zS) (v1 : Int32) (v2 : Int32) (v3 : Int32), FR8 σ0 σ → zp (zb_Space_explore_28 N n σ v1 v2 v3) (fun r => FR8 σ0 r.2) := by
  intro n
  induction n with
  | zero => intro _ _ _ _ _; exact zp_none
  | succ n ih =>
    intro σ v1 v2 v3 hs
    rw [zb_Space_explore_28]
    refine zp_ite (fun _ => ?_) fun _ => ?_
    ·
      refine zp_chk fun _ => ?_
      exact zp_some hs
    ·
      refine zp_ite (fun _ => ?_) fun _ => ?_
      ·
        refine zp_chk fun _ => ?_
        exact zp_some hs
      ·
        refine zp_ite (fun _ => ?_) fun _ => ?_
        ·
          refine zp_chk fun _ => ?_
          exact zp_some hs
        ·
          refine zp_bind (zp_mono (sq_f_Space_exploreFrom  hs) fun r10 hr10 => ?_)
          exact ih _ _ _ _ hr10
theorem sq_f_Space_explore {σ0 : zS} {N : Nat} {σ : zS} {x1 : Int32}  (hs : FR8 σ0 σ) : zp (zf_Space_explore N σ x1) (fun r => FR8 σ0 r.2) := by
  unfold zf_Space_explore
  refine zp_bind (zp_mono (sq_f_Arrays_fill_c3  (FR8.up (by decide) hs)) fun r1 hr1 => ?_)
  refine zp_bind (zp_mono (sq_f_Machine_setFirst  hr1) fun r2 hr2 => ?_)
  refine zp_bind (zp_mono (sq_f_Space_note  hr2) fun r3 hr3 => ?_)
  exact sq_b_Space_explore_28  _ _ _ _ _ hr3
theorem sq_f_Numbers_clear {σ0 : zS} {σ : zS}  (hs : FR8 σ0 σ) : zp (zf_Numbers_clear σ) (fun r => FR8 σ0 r) := by
  unfold zf_Numbers_clear
  exact zp_some (FR8.up (by decide) hs)
theorem sq_f_Numbers_clear_c1 {σ0 : zS} {σ : zS}  (hs : FR8 σ0 σ) : zp (zf_Numbers_clear_c1 σ) (fun r => FR8 σ0 r) := by
  unfold zf_Numbers_clear_c1
  exact zp_some (FR8.up (by decide) hs)
theorem sq_f_Numbers_clear_c2 {σ0 : zS} {σ : zS}  (hs : FR8 σ0 σ) : zp (zf_Numbers_clear_c2 σ) (fun r => FR8 σ0 r) := by
  unfold zf_Numbers_clear_c2
  exact zp_some (FR8.up (by decide) hs)
theorem sq_b_Arrays_fill_c5_5 {σ0 : zS} {N : Nat}  : ∀ (n : Nat) (σ : zS) (v1 : Int32) (v2 : Int32) (v3 : Int32), FR8 σ0 σ → zp (zb_Arrays_fill_c5_5 N n σ v1 v2 v3) (fun r => FR8 σ0 r) := by
  intro n
  induction n with
  | zero => intro _ _ _ _ _; exact zp_none
  | succ n ih =>
    intro σ v1 v2 v3 hs
    rw [zb_Arrays_fill_c5_5]
    refine zp_ite (fun _ => ?_) fun _ => ?_
    ·
      exact zp_some hs
    ·
      refine zp_chk fun _ => ?_
      exact ih _ _ _ _ (FR8.up (by decide) hs)
theorem sq_f_Arrays_fill_c5 {σ0 : zS} {N : Nat} {σ : zS} {x2 : Int32}  (hs : FR8 σ0 σ) : zp (zf_Arrays_fill_c5 N σ x2) (fun r => FR8 σ0 r) := by
  unfold zf_Arrays_fill_c5
  exact sq_b_Arrays_fill_c5_5  _ _ _ _ _ hs
theorem sq_f_Numbers_clear_c3 {σ0 : zS} {σ : zS}  (hs : FR8 σ0 σ) : zp (zf_Numbers_clear_c3 σ) (fun r => FR8 σ0 r) := by
  unfold zf_Numbers_clear_c3
  exact zp_some (FR8.up (by decide) hs)
theorem sq_f_Numbers_clear_c4 {σ0 : zS} {σ : zS}  (hs : FR8 σ0 σ) : zp (zf_Numbers_clear_c4 σ) (fun r => FR8 σ0 r) := by
  unfold zf_Numbers_clear_c4
  exact zp_some (FR8.up (by decide) hs)
theorem sq_f_Numbers_add {σ0 : zS} {σ : zS} {x1 : Int32}  (hs : FR8 σ0 σ) : zp (zf_Numbers_add σ x1) (fun r => FR8 σ0 r) := by
  unfold zf_Numbers_add
  refine zp_ite (fun _ => ?_) fun _ => ?_
  ·
    exact zp_some hs
  ·
    refine zp_ite (fun _ => ?_) fun _ => ?_
    ·
      exact zp_some hs
    ·
      refine zp_chk fun _ => ?_
      exact zp_some (FR8.up (by decide) (FR8.up (by decide) hs))
theorem sq_f_Numbers_add_c1 {σ0 : zS} {σ : zS} {x1 : Int32}  (hs : FR8 σ0 σ) : zp (zf_Numbers_add_c1 σ x1) (fun r => FR8 σ0 r) := by
  unfold zf_Numbers_add_c1
  refine zp_ite (fun _ => ?_) fun _ => ?_
  ·
    exact zp_some hs
  ·
    refine zp_ite (fun _ => ?_) fun _ => ?_
    ·
      exact zp_some hs
    ·
      refine zp_chk fun _ => ?_
      exact zp_some (FR8.up (by decide) (FR8.up (by decide) hs))
theorem sq_b_Findings_listRaces_56 {σ0 : zS} {k16 : zS → Int32 → Option (zS)} {N : Nat} {σ : zS} {v1 : Int32} (hk16 : ∀ (y0 : zS) (y1 : Int32), FR8 σ0 y0 → zp (k16 y0 y1) (fun r => FR8 σ0 r)) (hs : FR8 σ0 σ) : zp (zb_Findings_listRaces_56 k16 N σ v1) (fun r => FR8 σ0 r) := by
  unfold zb_Findings_listRaces_56
  exact hk16 _ _ hs
theorem sq_b_Findings_listRaces_16 {σ0 : zS} {N : Nat}  : ∀ (n : Nat) (σ : zS) (v1 : Int32), FR8 σ0 σ → zp (zb_Findings_listRaces_16 N n σ v1) (fun r => FR8 σ0 r) := by
  intro n
  induction n with
  | zero => intro _ _ _; exact zp_none
  | succ n ih =>
    intro σ v1 hs
    rw [zb_Findings_listRaces_16]
    refine zp_ite (fun _ => ?_) fun _ => ?_
    ·
      exact zp_some hs
    ·
      refine zp_chk fun _ => ?_
      refine zp_ite (fun _ => ?_) fun _ => ?_
      ·
        exact sq_b_Findings_listRaces_56 (ih) hs
      ·
        refine zp_bind (zp_mono (sq_f_Numbers_add  hs) fun r6 hr6 => ?_)
        refine zp_chk fun _ => ?_
        refine zp_bind (zp_mono (sq_f_Numbers_add_c1  hr6) fun r8 hr8 => ?_)
        exact sq_b_Findings_listRaces_56 (ih) hr8
theorem sq_f_Findings_listRaces {σ0 : zS} {N : Nat} {σ : zS}  (hs : FR8 σ0 σ) : zp (zf_Findings_listRaces N σ) (fun r => FR8 σ0 r) := by
  unfold zf_Findings_listRaces
  refine zp_bind (zp_mono (sq_f_Numbers_clear_c3  hs) fun r1 hr1 => ?_)
  refine zp_bind (zp_mono (sq_f_Numbers_clear_c4  hr1) fun r2 hr2 => ?_)
  exact sq_b_Findings_listRaces_16  _ _ _ hr2
theorem sq_f_Numbers_clear_c5 {σ0 : zS} {σ : zS}  (hs : FR8 σ0 σ) : zp (zf_Numbers_clear_c5 σ) (fun r => FR8 σ0 r) := by
  unfold zf_Numbers_clear_c5
  exact zp_some (FR8.up (by decide) hs)
theorem sq_f_Numbers_clear_c6 {σ0 : zS} {σ : zS}  (hs : FR8 σ0 σ) : zp (zf_Numbers_clear_c6 σ) (fun r => FR8 σ0 r) := by
  unfold zf_Numbers_clear_c6
  exact zp_some (FR8.up (by decide) hs)
theorem sq_b_Arrays_fill_c6_5 {σ0 : zS} {N : Nat}  : ∀ (n : Nat) (σ : zS) (v1 : Int32) (v2 : Int32) (v3 : Int32), FR8 σ0 σ → zp (zb_Arrays_fill_c6_5 N n σ v1 v2 v3) (fun r => FR8 σ0 r) := by
  intro n
  induction n with
  | zero => intro _ _ _ _ _; exact zp_none
  | succ n ih =>
    intro σ v1 v2 v3 hs
    rw [zb_Arrays_fill_c6_5]
    refine zp_ite (fun _ => ?_) fun _ => ?_
    ·
      exact zp_some hs
    ·
      refine zp_chk fun _ => ?_
      exact ih _ _ _ _ (FR8.up (by decide) hs)
theorem sq_f_Arrays_fill_c6 {σ0 : zS} {N : Nat} {σ : zS} {x2 : Int32}  (hs : FR8 σ0 σ) : zp (zf_Arrays_fill_c6 N σ x2) (fun r => FR8 σ0 r) := by
  unfold zf_Arrays_fill_c6
  exact sq_b_Arrays_fill_c6_5  _ _ _ _ _ hs
theorem sq_f_Numbers_add_c2 {σ0 : zS} {σ : zS} {x1 : Int32}  (hs : FR8 σ0 σ) : zp (zf_Numbers_add_c2 σ x1) (fun r => FR8 σ0 r) := by
  unfold zf_Numbers_add_c2
  refine zp_ite (fun _ => ?_) fun _ => ?_
  ·
    exact zp_some hs
  ·
    refine zp_ite (fun _ => ?_) fun _ => ?_
    ·
      exact zp_some hs
    ·
      refine zp_chk fun _ => ?_
      exact zp_some (FR8.up (by decide) (FR8.up (by decide) hs))
theorem sq_f_Numbers_add_c3 {σ0 : zS} {σ : zS} {x1 : Int32}  (hs : FR8 σ0 σ) : zp (zf_Numbers_add_c3 σ x1) (fun r => FR8 σ0 r) := by
  unfold zf_Numbers_add_c3
  refine zp_ite (fun _ => ?_) fun _ => ?_
  ·
    exact zp_some hs
  ·
    refine zp_ite (fun _ => ?_) fun _ => ?_
    ·
      exact zp_some hs
    ·
      refine zp_chk fun _ => ?_
      exact zp_some (FR8.up (by decide) (FR8.up (by decide) hs))
theorem sq_f_Outcomes_note {σ0 : zS} {N : Nat} {σ : zS} {x1 : Int32} {x2 : Int32}  (hs : FR8 σ0 σ) : zp (zf_Outcomes_note N σ x1 x2) (fun r => FR8 σ0 r) := by
  unfold zf_Outcomes_note
  refine zp_bind fun r1 _ => ?_
  refine zp_chk fun _ => ?_
  refine zp_ite (fun _ => ?_) fun _ => ?_
  ·
    exact zp_some hs
  ·
    refine zp_bind (zp_mono (sq_f_Numbers_add_c2  hs) fun r4 hr4 => ?_)
    refine zp_bind (zp_mono (sq_f_Numbers_add_c3  hr4) fun r5 hr5 => ?_)
    refine zp_chk fun _ => ?_
    exact zp_some (FR8.up (by decide) hr5)
theorem sq_b_Outcomes_gather_57 {σ0 : zS} {k24 : zS → Int32 → Option (zS)} {N : Nat} {σ : zS} {v2 : Int32} (hk24 : ∀ (y0 : zS) (y1 : Int32), FR8 σ0 y0 → zp (k24 y0 y1) (fun r => FR8 σ0 r)) (hs : FR8 σ0 σ) : zp (zb_Outcomes_gather_57 k24 N σ v2) (fun r => FR8 σ0 r) := by
  unfold zb_Outcomes_gather_57
  exact hk24 _ _ hs
theorem sq_b_Outcomes_gather_24 {σ0 : zS} {N : Nat}  : ∀ (n : Nat) (σ : zS) (v2 : Int32), FR8 σ0 σ → zp (zb_Outcomes_gather_24 N n σ v2) (fun r => FR8 σ0 r) := by
  intro n
  induction n with
  | zero => intro _ _ _; exact zp_none
  | succ n ih =>
    intro σ v2 hs
    rw [zb_Outcomes_gather_24]
    refine zp_ite (fun _ => ?_) fun _ => ?_
    ·
      exact zp_some hs
    ·
      refine zp_bind fun r5 _ => ?_
      refine zp_ite (fun _ => ?_) fun _ => ?_
      ·
        exact sq_b_Outcomes_gather_57 (ih) hs
      ·
        refine zp_bind (zp_mono (sq_f_Space_load  hs) fun r7 hr7 => ?_)
        refine zp_bind fun r8 _ => ?_
        refine zp_bind (zp_mono (sq_f_Outcomes_note  hr7) fun r9 hr9 => ?_)
        exact sq_b_Outcomes_gather_57 (ih) hr9
theorem sq_f_Outcomes_gather {σ0 : zS} {N : Nat} {σ : zS}  (hs : FR8 σ0 σ) : zp (zf_Outcomes_gather N σ) (fun r => FR8 σ0 r) := by
  unfold zf_Outcomes_gather
  refine zp_bind (zp_mono (sq_f_Numbers_clear_c5  hs) fun r1 hr1 => ?_)
  refine zp_bind (zp_mono (sq_f_Numbers_clear_c6  hr1) fun r2 hr2 => ?_)
  refine zp_bind (zp_mono (sq_f_Arrays_fill_c6  hr2) fun r3 hr3 => ?_)
  exact sq_b_Outcomes_gather_24  _ _ _ hr3
theorem sq_f_Findings_noteRace {σ0 : zS} {σ : zS} {x1 : Int32} {x2 : Int32} {x3 : Int32}  (hs : FR8 σ0 σ) : zp (zf_Findings_noteRace σ x1 x2 x3) (fun r => FR8 σ0 r) := by
  unfold zf_Findings_noteRace
  refine zp_bind fun r1 _ => ?_
  refine zp_ite (fun _ => ?_) fun _ => ?_
  ·
    exact zp_some hs
  ·
    refine zp_ite (fun _ => ?_) fun _ => ?_
    ·
      exact zp_some hs
    ·
      refine zp_ite (fun _ => ?_) fun _ => ?_
      ·
        exact zp_some hs
      ·
        refine zp_chk fun _ => ?_
        refine zp_ite (fun _ => ?_) fun _ => ?_
        ·
          exact zp_some hs
        ·
          refine zp_chk fun _ => ?_
          exact zp_some (FR8.up (by decide) hs)
theorem sq_b_Findings_noteRaces_83 {σ0 : zS} {k17 : zS → Int32 → Int32 → Int32 → Option (zS)} {N : Nat} {σ : zS} {v1 : Int32} {v2 : Int32} {v3 : Int32} (hk17 : ∀ (y0 : zS) (y1 : Int32) (y2 : Int32) (y3 : Int32), FR8 σ0 y0 → zp (k17 y0 y1 y2 y3) (fun r => FR8 σ0 r)) (hs : FR8 σ0 σ) : zp (zb_Findings_noteRaces_83 k17 N σ v1 v2 v3) (fun r => FR8 σ0 r) := by
  unfold zb_Findings_noteRaces_83
  exact hk17 _ _ _ _ hs
theorem sq_b_Findings_noteRaces_17 {σ0 : zS} {k2 : zS → Int32 → Int32 → Option (zS)} {N : Nat} (hk2 : ∀ (y0 : zS) (y1 : Int32) (y2 : Int32), FR8 σ0 y0 → zp (k2 y0 y1 y2) (fun r => FR8 σ0 r)) : ∀ (n : Nat) (σ : zS) (v1 : Int32) (v2 : Int32) (v3 : Int32), FR8 σ0 σ → zp (zb_Findings_noteRaces_17 k2 N n σ v1 v2 v3) (fun r => FR8 σ0 r) := by
  intro n
  induction n with
  | zero => intro _ _ _ _ _; exact zp_none
  | succ n ih =>
    intro σ v1 v2 v3 hs
    rw [zb_Findings_noteRaces_17]
    refine zp_ite (fun _ => ?_) fun _ => ?_
    ·
      exact hk2 _ _ _ hs
    ·
      refine zp_bind fun r3 _ => ?_
      refine zp_ite (fun _ => ?_) fun _ => ?_
      ·
        exact sq_b_Findings_noteRaces_83 (ih) hs
      ·
        refine zp_bind fun r5 _ => ?_
        refine zp_ite (fun _ => ?_) fun _ => ?_
        ·
          exact sq_b_Findings_noteRaces_83 (ih) hs
        ·
          refine zp_bind fun r7 _ => ?_
          refine zp_bind fun r8 _ => ?_
          refine zp_bind (zp_mono (sq_f_Findings_noteRace  hs) fun r9 hr9 => ?_)
          exact sq_b_Findings_noteRaces_83 (ih) hr9
theorem sq_b_Findings_noteRaces_2 {σ0 : zS} {N : Nat}  : ∀ (n : Nat) (σ : zS) (v1 : Int32) (v2 : Int32), FR8 σ0 σ → zp (zb_Findings_noteRaces_2 N n σ v1 v2) (fun r => FR8 σ0 r) := by
  intro n
  induction n with
  | zero => intro _ _ _ _; exact zp_none
  | succ n ih =>
    intro σ v1 v2 hs
    rw [zb_Findings_noteRaces_2]
    refine zp_ite (fun _ => ?_) fun _ => ?_
    ·
      exact zp_some hs
    ·
      exact sq_b_Findings_noteRaces_17 (ih) _ _ _ _ _ hs
theorem sq_f_Findings_noteRaces {σ0 : zS} {N : Nat} {σ : zS} {x1 : Int32}  (hs : FR8 σ0 σ) : zp (zf_Findings_noteRaces N σ x1) (fun r => FR8 σ0 r) := by
  unfold zf_Findings_noteRaces
  exact sq_b_Findings_noteRaces_2  _ _ _ _ hs
theorem sq_f_Numbers_add_c4 {σ0 : zS} {σ : zS} {x1 : Int32}  (hs : FR8 σ0 σ) : zp (zf_Numbers_add_c4 σ x1) (fun r => FR8 σ0 r) := by
  unfold zf_Numbers_add_c4
  refine zp_ite (fun _ => ?_) fun _ => ?_
  ·
    exact zp_some hs
  ·
    refine zp_ite (fun _ => ?_) fun _ => ?_
    ·
      exact zp_some hs
    ·
      refine zp_chk fun _ => ?_
      exact zp_some (FR8.up (by decide) (FR8.up (by decide) hs))
theorem sq_f_Numbers_add_c5 {σ0 : zS} {σ : zS} {x1 : Int32}  (hs : FR8 σ0 σ) : zp (zf_Numbers_add_c5 σ x1) (fun r => FR8 σ0 r) := by
  unfold zf_Numbers_add_c5
  refine zp_ite (fun _ => ?_) fun _ => ?_
  ·
    exact zp_some hs
  ·
    refine zp_ite (fun _ => ?_) fun _ => ?_
    ·
      exact zp_some hs
    ·
      refine zp_chk fun _ => ?_
      exact zp_some (FR8.up (by decide) (FR8.up (by decide) hs))
theorem sq_f_Numbers_add_c6 {σ0 : zS} {σ : zS} {x1 : Int32}  (hs : FR8 σ0 σ) : zp (zf_Numbers_add_c6 σ x1) (fun r => FR8 σ0 r) := by
  unfold zf_Numbers_add_c6
  refine zp_ite (fun _ => ?_) fun _ => ?_
  ·
    exact zp_some hs
  ·
    refine zp_ite (fun _ => ?_) fun _ => ?_
    ·
      exact zp_some hs
    ·
      refine zp_chk fun _ => ?_
      exact zp_some (FR8.up (by decide) (FR8.up (by decide) hs))
theorem sq_b_Findings_gather_97 {σ0 : zS} {k31 : zS → Int32 → Option (zS)} {N : Nat} {σ : zS} {v2 : Int32} (hk31 : ∀ (y0 : zS) (y1 : Int32), FR8 σ0 y0 → zp (k31 y0 y1) (fun r => FR8 σ0 r)) (hs : FR8 σ0 σ) : zp (zb_Findings_gather_97 k31 N σ v2) (fun r => FR8 σ0 r) := by
  unfold zb_Findings_gather_97
  refine zp_bind (zp_mono (sq_f_Findings_noteRaces  hs) fun r13 hr13 => ?_)
  exact hk31 _ _ hr13
theorem sq_b_Findings_gather_91_1 {σ0 : zS} {k31 : zS → Int32 → Option (zS)} {N : Nat} {σ : zS} {v2 : Int32} (hk31 : ∀ (y0 : zS) (y1 : Int32), FR8 σ0 y0 → zp (k31 y0 y1) (fun r => FR8 σ0 r)) (hs : FR8 σ0 σ) : zp (zb_Findings_gather_91_1 k31 N σ v2) (fun r => FR8 σ0 r) := by
  unfold zb_Findings_gather_91_1
  refine zp_bind (zp_mono (sq_f_Numbers_add_c5  hs) fun r17 hr17 => ?_)
  exact sq_b_Findings_gather_97 (hk31) hr17
theorem sq_b_Findings_gather_91 {σ0 : zS} {k31 : zS → Int32 → Option (zS)} {N : Nat} {σ : zS} {v2 : Int32} (hk31 : ∀ (y0 : zS) (y1 : Int32), FR8 σ0 y0 → zp (k31 y0 y1) (fun r => FR8 σ0 r)) (hs : FR8 σ0 σ) : zp (zb_Findings_gather_91 k31 N σ v2) (fun r => FR8 σ0 r) := by
  unfold zb_Findings_gather_91
  refine zp_bind (zp_mono (sq_f_Numbers_add_c4  hs) fun r16 hr16 => ?_)
  exact sq_b_Findings_gather_97 (hk31) hr16
theorem sq_b_Findings_gather_62 {σ0 : zS} {k31 : zS → Int32 → Option (zS)} {N : Nat} {σ : zS} {v2 : Int32} (hk31 : ∀ (y0 : zS) (y1 : Int32), FR8 σ0 y0 → zp (k31 y0 y1) (fun r => FR8 σ0 r)) (hs : FR8 σ0 σ) : zp (zb_Findings_gather_62 k31 N σ v2) (fun r => FR8 σ0 r) := by
  unfold zb_Findings_gather_62
  refine zp_bind fun r11 _ => ?_
  refine zp_ite (fun _ => ?_) fun _ => ?_
  ·
    exact sq_b_Findings_gather_97 (hk31) hs
  ·
    refine zp_bind fun r14 _ => ?_
    refine zp_ite (fun _ => ?_) fun _ => ?_
    ·
      exact sq_b_Findings_gather_91 (hk31) hs
    ·
      exact sq_b_Findings_gather_91_1 (hk31) hs
theorem sq_b_Findings_gather_31 {σ0 : zS} {N : Nat}  : ∀ (n : Nat) (σ : zS) (v2 : Int32), FR8 σ0 σ → zp (zb_Findings_gather_31 N n σ v2) (fun r => FR8 σ0 r) := by
  intro n
  induction n with
  | zero => intro _ _ _; exact zp_none
  | succ n ih =>
    intro σ v2 hs
    rw [zb_Findings_gather_31]
    refine zp_ite (fun _ => ?_) fun _ => ?_
    ·
      refine zp_bind (zp_mono (sq_f_Findings_listRaces  hs) fun r6 hr6 => ?_)
      refine zp_bind (zp_mono (sq_f_Outcomes_gather  hr6) fun r7 hr7 => ?_)
      exact zp_some hr7
    ·
      refine zp_bind (zp_mono (sq_f_Space_load  hs) fun r8 hr8 => ?_)
      refine zp_bind fun r9 _ => ?_
      refine zp_ite (fun _ => ?_) fun _ => ?_
      ·
        exact sq_b_Findings_gather_62 (ih) hr8
      ·
        refine zp_bind (zp_mono (sq_f_Numbers_add_c6  hr8) fun r18 hr18 => ?_)
        exact sq_b_Findings_gather_62 (ih) hr18
theorem sq_f_Findings_gather {σ0 : zS} {N : Nat} {σ : zS}  (hs : FR8 σ0 σ) : zp (zf_Findings_gather N σ) (fun r => FR8 σ0 r) := by
  unfold zf_Findings_gather
  refine zp_bind (zp_mono (sq_f_Numbers_clear  hs) fun r1 hr1 => ?_)
  refine zp_bind (zp_mono (sq_f_Numbers_clear_c1  hr1) fun r2 hr2 => ?_)
  refine zp_bind (zp_mono (sq_f_Numbers_clear_c2  hr2) fun r3 hr3 => ?_)
  refine zp_bind (zp_mono (sq_f_Arrays_fill_c5  hr3) fun r4 hr4 => ?_)
  exact sq_b_Findings_gather_31  _ _ _ hr4
theorem sq_b_X_run_57 {σ0 : zS} {N : Nat} {σ : zS}  (hs : FR8 σ0 σ) : zp (zb_X_run_57 N σ) (fun r => FR8 σ0 r.2) := by
  unfold zb_X_run_57
  refine zp_ite (fun _ => ?_) fun _ => ?_
  ·
    exact zp_some hs
  ·
    exact zp_some hs
theorem sq_f_X_run {σ0 : zS} {N : Nat} {σ : zS}  (hs : FR8 σ0 σ) : zp (zf_X_run N σ) (fun r => FR8 σ0 r.2) := by
  unfold zf_X_run
  refine zp_ite (fun _ => ?_) fun _ => ?_
  ·
    refine zp_ite (fun _ => ?_) fun _ => ?_
    ·
      exact sq_b_X_run_57  (FR8.up (by decide) hs)
    ·
      refine zp_bind (zp_mono (sq_f_Space_explore  (FR8.up (by decide) (FR8.up (by decide) hs))) fun r4 hr4 => ?_)
      refine zp_chk fun _ => ?_
      refine zp_ite (fun _ => ?_) fun _ => ?_
      ·
        exact sq_b_X_run_57  (FR8.up (by decide) hr4)
      ·
        refine zp_bind (zp_mono (sq_f_Findings_gather  (FR8.up (by decide) hr4)) fun r7 hr7 => ?_)
        exact sq_b_X_run_57  hr7
  ·
    exact zp_some hs
theorem sr_hi {N : Nat} {σ : zS} : zp (zf_X_run N σ) (fun r => ∀ q, 82 ≤ q → r.2 q = σ q) := sq_f_X_run (σ0 := σ) fun _ _ => rfl
theorem st_read75 {N : Nat} {σ : zS} {τ : zT} : zp (zf_X_read N σ τ) (fun r => ∀ i, i < 6 → r.2.1 75 i = -1) := by
  have fl : ∀ (ν : zS), zp (zf_Arrays_fill_c2 N ν (-1)) (fun r => ∀ i, i < 6 → r 75 i = -1) := fun ν => by
    have go : ∀ (n i : Nat) (ξ : zS), i ≤ 6 → (∀ l, l < i → ξ 75 l = -1) → zp (zb_Arrays_fill_c2_5 N n ξ (-1) (Int32.ofNat i) 6) (fun r => ∀ l, l < 6 → r 75 l = -1) := by
      intro n
      induction n with
      | zero => intro _ _ _ _; exact zp_none
      | succ n ih =>
        intro i ξ hi f
        rw [zb_Arrays_fill_c2_5]
        refine zp_ite (fun q => zp_some fun l hl => f l ?_) fun q => zp_chk fun _ => ?_
        · have := (zo_le (k := 6) (j := i) (by omega) (by omega)).mp q
          omega
        · rw [zo_n (by omega), zo_1 (by omega)]
          have lt : i < 6 := by
            by_cases c : i < 6
            · exact c
            · exact absurd ((zo_le (k := 6) (j := i) (by omega) (by omega)).mpr (by omega)) q
          refine ih (i + 1) _ (by omega) fun l hl => ?_
          rw [zx_up_same]
          by_cases c : l = i
          · rw [c, zu_eq]
          · rw [zu_ne c]; exact f l (by omega)
    unfold zf_Arrays_fill_c2
    exact go N 0 ν (by omega) fun l hl => absurd hl (Nat.not_lt_zero _)
  unfold zf_X_read
  refine zp_bind fun r1 _ => ?_
  have A : ∀ s0 : Int32, zp (zb_X_read_40 N (zx_up (zx_up r1.1 2 11 0) 2 12 (r1.1 17 6)) r1.2 s0) (fun r => ∀ i, i < 6 → r.2.1 75 i = -1) := by
    intro s0
    unfold zb_X_read_40 zf_Judge_forget
    refine zp_chk fun _ => zp_bind (zp_some (zp_bind (zp_mono (fl _) fun r5 h5 => ?_)))
    exact zp_ite (fun _ => zp_some h5) fun _ => zp_some h5
  exact zp_ite (fun y => A 0) fun y => A 1
