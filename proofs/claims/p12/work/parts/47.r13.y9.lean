-- both answer alike
set_option maxRecDepth 2000
theorem p_M_isStep2 {μ : zS} {c2 : Nat} {len : Nat → Nat} {x1 x2 : Int32} (h1 : c2 ≤ 4) (e17 : μ 82 17 = Int32.ofNat c2) (h3 : ∀ t, t < c2 → len t ≤ 24 ∧ μ 90 t = Int32.ofNat (len t)) : zp (zf_M_isStep μ x1 x2) (fun r => (r = 1 ∧ ∃ t s : Nat, t < c2 ∧ s < len t ∧ x1 = Int32.ofNat t ∧ x2 = Int32.ofNat s) ∨ (r = 0 ∧ ¬ ∃ t s : Nat, t < c2 ∧ s < len t ∧ x1 = Int32.ofNat t ∧ x2 = Int32.ofNat s)) := by
  unfold zf_M_isStep
  rw [e17]
  refine zp_bind (zp_mono p_M_in2 fun r1 hr1 => zp_ite (fun q => zp_some (Or.inr ⟨rfl, ?_⟩)) fun q => zp_chk fun ck => zp_bind (zp_mono p_M_in2 fun r4 hr4 => zp_ite (fun w => zp_some (Or.inr ⟨rfl, ?_⟩)) fun w => zp_some (Or.inl ⟨rfl, ?_⟩)))
  · rintro ⟨t, s, ht, hs, e1, e2⟩
    rcases hr1 with ⟨hr, _⟩ | ⟨_, no⟩
    · rw [hr] at q; exact absurd q (by decide)
    · refine no ⟨by rw [e1]; exact (zo_le (k := 0) (j := t) (by omega) (by omega)).mpr (Nat.zero_le _), ?_⟩
      rw [e1, zo_pred (by omega) (by omega)]
      exact (zo_le (by omega) (by omega)).mpr (by omega)
  all_goals
    have in1 : 0 ≤ x1 ∧ x1 ≤ Int32.ofNat (c2) - 1 := by
      rcases hr1 with ⟨_, h⟩ | ⟨hr, _⟩
      · exact h
      · exact absurd hr q
    have x1t : x1 = Int32.ofNat x1.toNatClampNeg := (zo_mk ck.1).symm
    have n4 : x1.toNatClampNeg < 4 := by
      have h := ck.2
      rw [x1t] at h
      have bnd := z_nat ck.1
      have h' : x1.toInt < 4 := Int32.lt_iff_toInt_lt.mp ck.2
      omega
    have c0 : 0 < c2 := by
      by_cases z : 0 < c2
      · exact z
      · have z0 : c2 = 0 := by omega
        rw [z0] at in1
        have := Int32.le_trans in1.1 in1.2
        exact absurd this (by decide)
    have tl : x1.toNatClampNeg < c2 := by
      have h := in1.2
      rw [x1t, zo_pred c0 (by omega)] at h
      have := (zo_le (k := x1.toNatClampNeg) (j := c2 - 1) (by omega) (by omega)).mp h
      omega
    have e9 := (h3 _ tl).2
    have l24 := (h3 _ tl).1
    rw [e9] at hr4
  · rintro ⟨t, s, ht, hs, e1, e2⟩
    have et : x1.toNatClampNeg = t := by rw [e1, zo_n (by omega)]
    rcases hr4 with ⟨hr, _⟩ | ⟨_, no⟩
    · rw [hr] at w; exact absurd w (by decide)
    · rw [et] at no
      refine no ⟨by rw [e2]; exact (zo_le (k := 0) (j := s) (by have := (h3 t ht).1; omega) (by have := (h3 t ht).1; omega)).mpr (Nat.zero_le _), ?_⟩
      have := (h3 t ht).1
      rw [e2, zo_pred (by omega) (by omega)]
      exact (zo_le (by omega) (by omega)).mpr (by omega)
  · rcases hr4 with ⟨_, y0, y1⟩ | ⟨hr, _⟩
    · have x2t : x2 = Int32.ofNat x2.toNatClampNeg := (zo_mk y0).symm
      have l0 : 0 < len x1.toNatClampNeg := by
        by_cases z : 0 < len x1.toNatClampNeg
        · exact z
        · have z0 : len x1.toNatClampNeg = 0 := by omega
          rw [z0] at y1
          have := Int32.le_trans y0 y1
          exact absurd this (by decide)
      have y1' := y1
      rw [zo_pred l0 (by omega)] at y1'
      have bnd := z_nat y0
      have bi := Int32.le_iff_toInt_le.mp y1'
      rw [zo_ti (by omega)] at bi
      exact ⟨x1.toNatClampNeg, x2.toNatClampNeg, tl, by omega, x1t, x2t⟩
    · exact absurd hr w
theorem p_X_slotOf3 {σ : zS} {c2 : Nat} {len : Nat → Nat} {x1 x2 : Int32} (h1 : c2 ≤ 4) (h3 : ∀ t, t < c2 → len t ≤ 24 ∧ σ 5 t = Int32.ofNat (len t)) (h4 : ∀ t, c2 ≤ t → t < 4 → σ 5 t = 0) : zp (zf_Program_slotOf σ x1 x2) (fun r => (∃ t s : Nat, t < c2 ∧ s < len t ∧ x1 = Int32.ofNat t ∧ x2 = Int32.ofNat s ∧ r = Int32.ofNat (24 * t + s)) ∨ ((¬ ∃ t s : Nat, t < c2 ∧ s < len t ∧ x1 = Int32.ofNat t ∧ x2 = Int32.ofNat s) ∧ r = 96)) := by
  refine (Classical.em (∃ t s : Nat, t < c2 ∧ s < len t ∧ x1 = Int32.ofNat t ∧ x2 = Int32.ofNat s)).elim (fun yes => ?_) (fun no => ?_)
  · obtain ⟨t, s, ht, hs, e1, e2⟩ := yes
    have l24 := (h3 t ht).1
    rw [e1, e2]
    refine zp_mono (p_X_slotOf (by omega) (by omega) (by rw [(h3 t ht).2]; exact (zo_lt (by omega) (by omega)).mpr hs)) fun r hr => Or.inl ⟨t, s, ht, hs, rfl, rfl, hr⟩
  · intro r hr
    refine Or.inr ⟨no, ?_⟩
    unfold zf_Program_slotOf zb_Program_slotOf_33 zb_Program_slotOf_34 at hr
    by_cases c1 : x1 < 0
    · simp [c1] at hr; exact hr.symm
    by_cases d2 : 4 ≤ x1
    · simp [c1, d2] at hr; exact hr.symm
    by_cases c3 : x2 < 0
    · simp [c1, d2, c3] at hr; exact hr.symm
    by_cases c4 : 24 ≤ x2
    · simp [c1, d2, c3, c4] at hr; exact hr.symm
    have p1 : 0 ≤ x1 := Int32.not_lt.mp c1
    have p2 : 0 ≤ x2 := Int32.not_lt.mp c3
    have x1t : x1 = Int32.ofNat x1.toNatClampNeg := (zo_mk p1).symm
    have x2t : x2 = Int32.ofNat x2.toNatClampNeg := (zo_mk p2).symm
    have b1 := z_nat p1
    have b2 := z_nat p2
    have i1 : x1.toInt < 4 := Int32.lt_iff_toInt_lt.mp (Int32.not_le.mp d2)
    have i2 : x2.toInt < 24 := Int32.lt_iff_toInt_lt.mp (Int32.not_le.mp c4)
    have c5 : σ 5 x1.toNatClampNeg ≤ x2 := by
      by_cases tl : x1.toNatClampNeg < c2
      · have l24 := (h3 _ tl).1
        rw [(h3 _ tl).2, x2t]
        refine (zo_le (by omega) (by omega)).mpr ?_
        by_cases w : len x1.toNatClampNeg ≤ x2.toNatClampNeg
        · exact w
        · exact absurd ⟨x1.toNatClampNeg, x2.toNatClampNeg, tl, by omega, x1t, x2t⟩ no
      · rw [h4 _ (by omega) (by omega)]; exact p2
    simp [c1, d2, c3, c4, c5, p1, Int32.not_le.mp d2] at hr
    exact hr.symm
def PJ (σ : zS) (c2 : Nat) (len : Nat → Nat) : Prop := c2 ≤ 4 ∧ σ 82 17 = Int32.ofNat c2 ∧ (∀ t, t < c2 → len t ≤ 24 ∧ σ 5 t = Int32.ofNat (len t) ∧ σ 90 t = Int32.ofNat (len t)) ∧ (∀ t, c2 ≤ t → t < 4 → σ 5 t = 0) ∧ (∀ t, t < c2 → ROWS σ len t) ∧ NWC σ σ ∧ (∀ b, b < 4 → STB σ c2 len b)
theorem PJ.of {σ r : zS} {c2 : Nat} {len : Nat → Nat} (h : PJ σ c2 len) (e : ∀ q, (5 ≤ q ∧ q ≤ 12) ∨ (90 ≤ q ∧ q ≤ 97) → r q = σ q) (f : r 82 17 = σ 82 17) : PJ r c2 len := by
  unfold PJ ROWS ROW NWC STB at *
  rw [f, e 5 (by decide), e 6 (by decide), e 7 (by decide), e 8 (by decide), e 9 (by decide), e 10 (by decide), e 11 (by decide), e 12 (by decide), e 90 (by decide), e 92 (by decide), e 93 (by decide), e 94 (by decide), e 95 (by decide), e 96 (by decide), e 97 (by decide)]
  exact h
theorem NEA.of {σ r : zS} {len : Nat → Nat} {a b s : Nat} (e : ∀ q, 6 ≤ q ∧ q ≤ 10 → r q = σ q) : NEA r len a b s ↔ NEA σ len a b s := by
  have E : EDG r len a = EDG σ len a := by
    funext x y
    unfold EDG
    rw [e 9 (by decide), e 10 (by decide)]
  unfold NEA
  rw [E, e 6 (by decide), e 7 (by decide), e 8 (by decide)]
theorem bit_two {A B : Int32} {x y : Nat} : ((zJ_ushr A (Int32.ofNat x)) &&& (zJ_ushr B (Int32.ofNat y))) &&& 1 = 0 ↔ ¬ (bit A x ∧ bit B y) := by
  unfold bit
  rw [bit_and1, bit_and1, bit_and1, Int32.toBitVec_and, BitVec.getLsbD_and]
  cases (zJ_ushr A (Int32.ofNat x)).toBitVec.getLsbD 0 <;> cases (zJ_ushr B (Int32.ofNat y)).toBitVec.getLsbD 0 <;> simp
theorem zo_44 : ∀ a b : Fin 4, Int32.ofNat a.val * 4 + Int32.ofNat b.val = Int32.ofNat (4 * a.val + b.val) := by decide +kernel
theorem p_canMeet {σ : zS} {a b x y : Nat} (ha : a < 4) (hb : b < 4) : zp (zf_Judge_canMeet σ (Int32.ofNat a) (Int32.ofNat x) (Int32.ofNat b) (Int32.ofNat y)) (fun r => (r = 0 ∨ r = 1) ∧ (r = 1 ↔ (bit (σ 77 (4 * a + b)) x ∧ bit (σ 77 (4 * b + a)) y))) := by
  have e1 := zo_44 ⟨a, ha⟩ ⟨b, hb⟩
  have e2 := zo_44 ⟨b, hb⟩ ⟨a, ha⟩
  dsimp only at e1 e2
  unfold zf_Judge_canMeet
  rw [e1, e2, zo_n (m := 4 * a + b) (by omega), zo_n (m := 4 * b + a) (by omega)]
  refine zp_ite (fun w => ?_) fun _ => zp_ite (fun w => ?_) fun _ => zp_ite (fun w => ?_) fun _ => zp_ite (fun _ => zp_chk fun _ => zp_chk fun _ => zp_ite (fun z => zp_some ⟨Or.inl rfl, fun w => absurd w (by decide), fun w => absurd w (bit_two.mp z)⟩) fun z => zp_some ⟨Or.inr rfl, fun _ => Classical.byContradiction fun w => z (bit_two.mpr w), fun _ => rfl⟩) fun w => ?_
  · have := (zo_lt (k := a) (j := 0) (by omega) (by omega)).mp w
    omega
  · have := (zo_le (k := 4) (j := a) (by omega) (by omega)).mp w
    omega
  · have := (zo_lt (k := b) (j := 0) (by omega) (by omega)).mp w
    omega
  · exact absurd ((zo_lt (k := b) (j := 4) (by omega) (by omega)).mpr hb) w
theorem p_meets {N : Nat} {σ : zS} {c2 : Nat} {len : Nat → Nat} {a b x y : Nat} (pj : PJ σ c2 len) (ha : a < c2) (hb : b < c2) (ab : a ≠ b) (hx : x < len a) (hy : y < len b) : zp (zf_M_meets N σ (Int32.ofNat a) (Int32.ofNat x) (Int32.ofNat b) (Int32.ofNat y)) (fun r => (r = 0 ∨ r = 1) ∧ (r = 1 ↔ (NEA σ len a b x ∧ NEA σ len b a y))) := by
  obtain ⟨hc, h17, h3, h4, rows, nw, sb⟩ := pj
  have L : ∀ t, t < c2 → len t ≤ 24 ∧ σ 90 t = Int32.ofNat (len t) := fun t ht => ⟨(h3 t ht).1, (h3 t ht).2.2⟩
  unfold zf_M_meets
  refine zp_bind (zp_mono (p_isApart (b := a) hc hb hy h17 L (rows b hb)) fun r1 k1 => ?_)
  rw [ANS, nem_iff hc hb (Ne.symm ab) hy (fun t ht => (h3 t ht).1) rows (sb a (by omega))] at k1
  refine zp_ite (fun n1 => zp_some ⟨Or.inl rfl, fun w => absurd w (by decide), fun w => absurd (k1.2.mpr w.2) n1⟩) fun y1 => ?_
  have n1 := k1.2.mp (Classical.not_not.mp y1)
  refine zp_bind (zp_mono (p_isApart (b := b) hc ha hx h17 L (rows a ha)) fun r3 k3 => ?_)
  rw [ANS, nem_iff hc ha ab hx (fun t ht => (h3 t ht).1) rows (sb b (by omega))] at k3
  exact zp_ite (fun n3 => zp_some ⟨Or.inl rfl, fun w => absurd w (by decide), fun w => absurd (k3.2.mpr w.1) n3⟩) fun y3 => zp_some ⟨Or.inr rfl, fun _ => ⟨k3.2.mp (Classical.not_not.mp y3), n1⟩, fun _ => rfl⟩
def JDN (σ : zS) (c2 : Nat) (len : Nat → Nat) : Prop := ¬ σ 76 5 = 0 → ∀ a b, a < c2 → b < 4 → ∀ s, s < 24 → (bit (σ 77 (4 * a + b)) s ↔ NEA σ len a b s)
theorem z_dm16 : ∀ q : Fin 16, Int32.ofNat q.val / 4 = Int32.ofNat (q.val / 4) ∧ zJ_rem (Int32.ofNat q.val) 4 = Int32.ofNat (q.val % 4) := by decide +kernel
theorem p_prep14 {N : Nat} {σ : zS} {c2 : Nat} {len : Nat → Nat} {Q : zS → Prop} (pj : PJ σ c2 len) (kont : ∀ r, (∀ q, q ≠ 77 → r q = σ q) → (∀ a b, a < c2 → b < 4 → ∀ s, s < 24 → (bit (r 77 (4 * a + b)) s ↔ NEA σ len a b s)) → zp ((zf_Judge_listDoubts N r).bind fun r3 => (zf_Judge_countRings N r3).bind fun r4 => some (zx_up r4.2 76 4 r4.1)) Q) : ∀ (n i : Nat) (r : zS), i ≤ 16 → (∀ q, q ≠ 77 → r q = σ q) → (∀ a b, a < c2 → b < 4 → 4 * a + b < i → ∀ s, s < 24 → (bit (r 77 (4 * a + b)) s ↔ NEA σ len a b s)) → zp (zb_Judge_prepare_14 N n r (Int32.ofNat i)) Q := by
  intro n
  induction n with
  | zero => intro _ _ _ _ _; exact zp_none
  | succ n ih =>
    intro i r hi f h
    rw [zb_Judge_prepare_14]
    refine zp_ite (fun z => kont r f fun a b ha hb s hs => h a b ha hb ?_ s hs) fun z => ?_
    · have := (zo_le (k := 16) (j := i) (by omega) (by omega)).mp z
      have := pj.1
      omega
    · have i16 : i < 16 := by
        have : ¬ 16 ≤ i := fun x => z ((zo_le (k := 16) (j := i) (by omega) (by omega)).mpr x)
        omega
      have dm := z_dm16 ⟨i, i16⟩
      dsimp only at dm
      rw [dm.1, dm.2]
      have nr : zp (zf_Judge_stepsNear N r (Int32.ofNat (i / 4)) (Int32.ofNat (i % 4))) (fun v => i / 4 < c2 → ∀ s, s < 24 → (bit v s ↔ NEA σ len (i / 4) (i % 4) s)) := by
        by_cases c : i / 4 < c2
        · have p' : PJ r c2 len := pj.of (fun q hq => f q (by omega)) (by rw [f 82 (by decide)])
          refine zp_mono (p_stepsNear (by omega) (by omega) (p'.2.2.1 _ c).2.1 (p'.2.2.1 _ c).1 p'.2.2.2.2.2.1) fun v hv _ s hs => ?_
          rw [hv s hs]
          exact NEA.of fun q hq => f q (by omega)
        · exact fun v _ w => absurd w c
      refine zp_bind (zp_mono nr fun v hv => zp_chk fun _ => ?_)
      rw [zo_n (by omega), zo_1 (by omega)]
      refine ih (i + 1) _ (by omega) (fun q hq => by rw [zu_other hq]; exact f q hq) fun a b ha hb hl s hs => ?_
      rw [zx_up_same]
      by_cases e : 4 * a + b = i
      · have e1 : i / 4 = a := by omega
        have e2 : i % 4 = b := by omega
        have k := hv (by rw [e1]; exact ha) s hs
        rw [e1, e2] at k
        rw [e, zu_eq]
        exact k
      · rw [zu_ne e]
        exact h a b ha hb (by omega) s hs
theorem p_prepare {N : Nat} {σ : zS} {c2 : Nat} {len : Nat → Nat} (pj : PJ σ c2 len) (jd : JDN σ c2 len) : zp (zf_Judge_prepare N σ) (fun r => (∀ q, (q < 76 ∨ 80 < q) → r q = σ q) ∧ JDN r c2 len ∧ ¬ r 76 5 = 0) := by
  unfold zf_Judge_prepare
  refine zp_ite (fun z => zp_some ⟨fun _ _ => rfl, jd, z⟩) fun z => ?_
  have pj1 : PJ (zx_up σ 76 5 1) c2 len := pj.of (fun q hq => zu_other (by omega)) (by rw [zu_other (by decide)])
  refine p_prep14 pj1 (fun r f h => ?_) N 0 _ (Nat.zero_le _) (fun _ _ => rfl) (fun _ _ _ _ w => absurd w (Nat.not_lt_zero _))
  refine zp_bind (zp_mono (wl_f_Judge_listDoubts fun _ _ => rfl) fun r3 h3 => zp_bind (zp_mono (wp_f_Judge_countRings fun _ _ => rfl) fun r4 h4 => zp_some ⟨fun q hq => ?_, fun _ a b ha hb s hs => ?_, ?_⟩))
  · rw [zu_other (by omega), h4 q (by omega), h3 q (by omega), f q (by omega), zu_other (by omega)]
  · rw [zu_other (by decide), h4 77 (by decide), h3 77 (by decide), h a b ha hb s hs]
    refine (NEA.of fun q hq => ?_).symm
    rw [zu_other (by omega), h4 q (by omega), h3 q (by omega), f q (by omega)]
  · rw [zx_up_same, zu_ne (by decide), h4 76 (by decide), h3 76 (by decide), f 76 (by decide), zx_up_same, zu_eq]
    decide
def STP (c2 : Nat) (len : Nat → Nat) (x1 x2 : Int32) : Prop := ∃ t s : Nat, t < c2 ∧ s < len t ∧ x1 = Int32.ofNat t ∧ x2 = Int32.ofNat s
theorem p_M_meetV {N : Nat} {σ : zS} {c2 : Nat} {len : Nat → Nat} {x1 x2 x3 x4 : Int32} (pj : PJ σ c2 len) (ld : σ 82 21 = 1) : zp (zf_M_meet N σ x1 x2 x3 x4) (fun s => (¬ (x1 ≠ x3 ∧ STP c2 len x1 x2 ∧ STP c2 len x3 x4) → s.1 = -102) ∧ (∀ a x b y, a < c2 → x < len a → b < c2 → y < len b → a ≠ b → x1 = Int32.ofNat a → x2 = Int32.ofNat x → x3 = Int32.ofNat b → x4 = Int32.ofNat y → (s.1 = 0 ∨ s.1 = 1) ∧ (s.1 = 1 ↔ (NEA σ len a b x ∧ NEA σ len b a y)))) := by
  have pu : PJ (zx_up σ 82 0 0) c2 len := pj.of (fun q hq => zu_other (by omega)) (by rw [zx_up_same, zu_ne (by decide)])
  have ne : ∀ {a b s : Nat}, NEA (zx_up σ 82 0 0) len a b s ↔ NEA σ len a b s := fun {a b s} => NEA.of fun q hq => zu_other (by omega)
  have hc := pj.1
  have L : ∀ t, t < c2 → len t ≤ 24 := fun t ht => (pj.2.2.1 t ht).1
  have L' : ∀ t, t < c2 → len t ≤ 24 ∧ (zx_up σ 82 0 0) 90 t = Int32.ofNat (len t) := fun t ht => ⟨L t ht, (pu.2.2.1 t ht).2.2⟩
  have is : ∀ y1 y2, zp (zf_M_isStep (zx_up σ 82 0 0) y1 y2) (fun r => (r = 1 ∧ STP c2 len y1 y2) ∨ (r = 0 ∧ ¬ STP c2 len y1 y2)) := fun y1 y2 => p_M_isStep2 hc pu.2.1 L'
  unfold zf_M_meet
  refine zp_ite (fun _ => zp_bind (zp_mono (is x1 x2) fun r2 k2 => zp_ite (fun z => zp_some ⟨fun _ => rfl, fun a x b y ha hx hb hy ab e1 e2 e3 e4 => ?_⟩) fun z => zp_bind (zp_mono (is x3 x4) fun r4 k4 => zp_ite (fun w => zp_some ⟨fun _ => rfl, fun a x b y ha hx hb hy ab e1 e2 e3 e4 => ?_⟩) fun w => zp_ite (fun nx => ?_) fun ex => zp_some ⟨fun _ => rfl, fun a x b y ha hx hb hy ab e1 e2 e3 e4 => ?_⟩))) fun q => absurd (by rw [ld]; decide) q
  · rcases k2 with k2 | k2
    · exact absurd (z.symm.trans k2.1) (by decide)
    · exact absurd ⟨a, x, ha, hx, e1, e2⟩ k2.2
  · rcases k4 with k4 | k4
    · exact absurd (w.symm.trans k4.1) (by decide)
    · exact absurd ⟨b, y, hb, hy, e3, e4⟩ k4.2
  · have s1 : STP c2 len x1 x2 := by
      rcases k2 with k2 | k2
      · exact k2.2
      · exact absurd k2.1 z
    have s3 : STP c2 len x3 x4 := by
      rcases k4 with k4 | k4
      · exact k4.2
      · exact absurd k4.1 w
    obtain ⟨a', x', ha', hx', f1, f2⟩ := s1
    obtain ⟨b', y', hb', hy', f3, f4⟩ := s3
    have ab' : a' ≠ b' := fun e => nx (by rw [f1, f3, e])
    have P := p_meets (N := N) pu ha' hb' ab' hx' hy'
    rw [f1, f2, f3, f4]
    have la := L a' ha'
    have lb := L b' hb'
    have fin : ∀ v : Int32, (v = 0 ∨ v = 1) → (v = 1 ↔ (NEA (zx_up σ 82 0 0) len a' b' x' ∧ NEA (zx_up σ 82 0 0) len b' a' y')) → (¬ (Int32.ofNat a' ≠ Int32.ofNat b' ∧ STP c2 len (Int32.ofNat a') (Int32.ofNat x') ∧ STP c2 len (Int32.ofNat b') (Int32.ofNat y')) → v = -102) ∧ (∀ a x b y, a < c2 → x < len a → b < c2 → y < len b → a ≠ b → Int32.ofNat a' = Int32.ofNat a → Int32.ofNat x' = Int32.ofNat x → Int32.ofNat b' = Int32.ofNat b → Int32.ofNat y' = Int32.ofNat y → (v = 0 ∨ v = 1) ∧ (v = 1 ↔ (NEA σ len a b x ∧ NEA σ len b a y))) := by
      intro v hv hi
      refine ⟨fun no => absurd ⟨fun e => ab' (zo_inj (by omega) (by omega) e), ⟨a', x', ha', hx', rfl, rfl⟩, ⟨b', y', hb', hy', rfl, rfl⟩⟩ no, fun a x b y ha hx hb hy ab e1 e2 e3 e4 => ⟨hv, ?_⟩⟩
      have la2 := L a ha
      have lb2 := L b hb
      have g1 := zo_inj (by omega) (by omega) e1
      have g2 := zo_inj (by omega) (by omega) e2
      have g3 := zo_inj (by omega) (by omega) e3
      have g4 := zo_inj (by omega) (by omega) e4
      rw [hi, ne, ne, g1, g2, g3, g4]
    refine zp_bind (zp_mono P fun r7 k7 => zp_ite (fun z7 => zp_some ?_) fun n7 => zp_some ?_)
    · rw [z7] at k7
      exact fin 0 k7.1 k7.2
    · have o : r7 = 1 := k7.1.resolve_left n7
      rw [o] at k7
      exact fin 1 k7.1 k7.2
  · have la2 := L a ha
    have lb2 := L b hb
    have e := Classical.not_not.mp ex
    rw [e1, e3] at e
    exact absurd (zo_inj (by omega) (by omega) e) ab
theorem p_meetW {N : Nat} {σ : zS} {c2 : Nat} {len : Nat → Nat} {x1 x2 x3 x4 : Int32} (pj : PJ σ c2 len) (l1 : σ 2 13 = 1) (l2 : σ 82 21 = 1) (jd : JDN σ c2 len) : zp (zf_X_meet N σ x1 x2 x3 x4) (fun r => zp (zf_M_meet N r.2 x1 x2 x3 x4) (fun s => r.1 = s.1)) := by
  have hc := pj.1
  have L : ∀ t, t < c2 → len t ≤ 24 := fun t ht => (pj.2.2.1 t ht).1
  have L5 : ∀ t, t < c2 → len t ≤ 24 ∧ σ 5 t = Int32.ofNat (len t) := fun t ht => ⟨L t ht, (pj.2.2.1 t ht).2.1⟩
  have no : ¬ (x1 ≠ x3 ∧ STP c2 len x1 x2 ∧ STP c2 len x3 x4) → zp (some ((-102 : Int32), σ)) (fun r => zp (zf_M_meet N r.2 x1 x2 x3 x4) (fun s => r.1 = s.1)) := fun h => zp_some (zp_mono (p_M_meetV pj l2) fun s hs => (hs.1 h).symm)
  have sl : ∀ y1 y2, zp (zf_Program_slotOf σ y1 y2) (fun r => (∃ t s : Nat, t < c2 ∧ s < len t ∧ y1 = Int32.ofNat t ∧ y2 = Int32.ofNat s ∧ r = Int32.ofNat (24 * t + s)) ∨ ((¬ STP c2 len y1 y2) ∧ r = 96)) := fun y1 y2 => p_X_slotOf3 hc L5 pj.2.2.2.1
  unfold zf_X_meet
  refine zp_ite (fun _ => zp_ite (fun e => no fun w => w.1 e) fun ne => zp_bind (zp_mono (sl x1 x2) fun r3 k3 => zp_ite (fun z => ?_) fun z => zp_bind (zp_mono (sl x3 x4) fun r5 k5 => zp_ite (fun w => ?_) fun w => ?_))) fun q => absurd (by rw [l1]; decide) q
  · rcases k3 with ⟨t, s, ht, hs, _, _, e⟩ | k3
    · have l := L t ht
      have := zo_inj (k := 24 * t + s) (j := 96) (by omega) (by omega) (e.symm.trans z)
      omega
    · exact no fun w => k3.1 w.2.1
  · rcases k3 with ⟨a, x, ha, hx, e1, e2, _⟩ | k3
    · rcases k5 with ⟨b, y, hb, hy, e3, e4, _⟩ | k5
      · have la := L a ha
        have lb := L b hb
        have ab : a ≠ b := fun e => ne (by rw [e1, e3, e])
        refine zp_bind (zp_mono (p_prepare pj jd) fun r7 ⟨f, j, g⟩ => ?_)
        have pj7 : PJ r7 c2 len := pj.of (fun q hq => f q (by omega)) (by rw [f 82 (by decide)])
        have l7 : r7 82 21 = 1 := by rw [f 82 (by decide)]; exact l2
        rw [e1, e2, e3, e4]
        refine zp_bind (zp_mono (p_canMeet (by omega) (by omega)) fun r8 k8 => ?_)
        rw [j g a b ha (by omega) x (by omega), j g b a hb (by omega) y (by omega)] at k8
        have ref := p_M_meetV (N := N) (x1 := Int32.ofNat a) (x2 := Int32.ofNat x) (x3 := Int32.ofNat b) (x4 := Int32.ofNat y) pj7 l7
        refine zp_ite (fun z8 => zp_some (zp_mono ref fun s hs => ?_)) fun n8 => zp_some (zp_mono ref fun s hs => ?_)
        · obtain ⟨s1, s2⟩ := hs.2 a x b y ha hx hb hy ab rfl rfl rfl rfl
          rw [z8] at k8
          have n : ¬ s.1 = 1 := fun q => absurd (k8.2.mpr (s2.mp q)) (by decide)
          exact (s1.resolve_right n).symm
        · obtain ⟨s1, s2⟩ := hs.2 a x b y ha hx hb hy ab rfl rfl rfl rfl
          exact (s2.mpr (k8.2.mp (k8.1.resolve_left n8))).symm
      · exact absurd k5.2 w
    · exact absurd k3.2 z
  · rcases k5 with ⟨t, s, ht, hs, _, _, e⟩ | k5
    · have l := L t ht
      have := zo_inj (k := 24 * t + s) (j := 96) (by omega) (by omega) (e.symm.trans (Classical.not_not.mp w))
      omega
    · exact no fun w => k5.1 w.2.2
