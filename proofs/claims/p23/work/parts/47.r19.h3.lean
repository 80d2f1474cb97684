-- both answer alike
set_option maxRecDepth 2000
theorem p_isTaking {σ : zS} {c2 : Nat} {len : Nat → Nat} {v : Nat} (pj : PJ σ c2 len) (hv : v < 24 * c2) : zp (zf_M_isTaking σ (Int32.ofNat v)) (fun r => AN1 (TAK σ c2 len v) r) := by
  have hc := pj.1
  have tc : v / 24 < c2 := by omega
  obtain ⟨l24, _, e90⟩ := pj.2.2.1 _ tc
  have dm := z_dm96 ⟨v, by omega⟩
  dsimp only at dm
  have ev : 24 * (v / 24) + v % 24 = v := by omega
  unfold zf_M_isTaking
  rw [dm.1, dm.2, zo_n (m := v / 24) (by omega), e90, zo_n (m := v) (by omega)]
  refine zp_chk fun _ => zp_ite (fun w => zp_some ⟨Or.inl rfl, fun e => absurd e (by decide), fun t => ?_⟩) fun w => ?_
  · have := (zo_le (k := len (v / 24)) (j := v % 24) (by omega) (by omega)).mp w
    have := t.2.1
    omega
  · have sl : v % 24 < len (v / 24) := by
      have : ¬ len (v / 24) ≤ v % 24 := fun k => w ((zo_le (by omega) (by omega)).mpr k)
      omega
    have k1 := (pj.2.2.2.2.1 _ tc _ sl).1.1
    rw [ev] at k1
    exact zp_chk fun _ => zp_ite (fun n => zp_some ⟨Or.inl rfl, fun e => absurd e (by decide), fun t => absurd (k1.symm.trans t.2.2) n⟩) fun y => zp_some ⟨Or.inr rfl, fun _ => ⟨tc, sl, k1.trans (Classical.not_not.mp y)⟩, fun _ => rfl⟩
theorem tak_rows {σ : zS} {c2 : Nat} {len : Nat → Nat} {v : Nat} (pj : PJ σ c2 len) (t : TAK σ c2 len v) : σ 93 v = σ 8 v ∧ σ 96 v = σ 11 v := by
  have ev : 24 * (v / 24) + v % 24 = v := by omega
  obtain ⟨k1, k2, _, _, _, _, k7, _⟩ := (pj.2.2.2.2.1 _ t.1 _ t.2.1).1
  rw [ev] at k1 k2 k7
  refine ⟨(k2 ?_).symm, k7.symm⟩
  rw [← k1, t.2.2]
  exact Or.inr (Or.inr (Or.inl rfl))
theorem p_isHeld {σ : zS} {c2 : Nat} {len : Nat → Nat} {u v : Nat} (pj : PJ σ c2 len) (lk : LKS σ c2 len) (tu : TAK σ c2 len u) (tv : TAK σ c2 len v) : zp (zf_M_isHeld σ (Int32.ofNat u) (Int32.ofNat v)) (fun r => AN1 (HLD σ u v) r) := by
  have bu := (tak_lt pj tu).2
  have bv := (tak_lt pj tv).2
  obtain ⟨ln, le⟩ := lk.nat tu
  unfold zf_M_isHeld
  rw [zo_n (m := u) (by omega), zo_n (m := v) (by omega), (tak_rows pj tu).1, (tak_rows pj tv).2, ← le]
  have B := bit_shr (v := σ 11 v) ln
  unfold HLD
  exact zp_chk fun _ => zp_chk fun _ => zp_ite (fun n => zp_some ⟨Or.inl rfl, fun e => absurd e (by decide), fun h => absurd (B.2.mpr h) n⟩) fun y => zp_some ⟨Or.inr rfl, fun _ => B.2.mp (Classical.not_not.mp y), fun _ => rfl⟩
theorem p_goTog {N : Nat} {σ : zS} {c2 : Nat} {len : Nat → Nat} {u v : Nat} (pj : PJ σ c2 len) (tu : TAK σ c2 len u) (tv : TAK σ c2 len v) : zp (zf_M_goTogether N σ (Int32.ofNat u) (Int32.ofNat v)) (fun r => AN1 (TOG σ len u v) r) := by
  have bu := (tak_lt pj tu).2
  have bv := (tak_lt pj tv).2
  have dmu := z_dm96 ⟨u, bu⟩
  have dmv := z_dm96 ⟨v, bv⟩
  dsimp only at dmu dmv
  have z : ∀ {P : Prop}, ¬ P → AN1 P 0 := fun h => ⟨Or.inl rfl, fun e => absurd e (by decide), fun p => absurd p h⟩
  have cm : σ 11 u &&& σ 11 v = σ 11 v &&& σ 11 u := Int32.and_comm _ _
  unfold zf_M_goTogether
  rw [dmu.1, dmu.2, dmv.1, dmv.2, zo_n (m := u) (by omega), zo_n (m := v) (by omega), (tak_rows pj tu).1, (tak_rows pj tv).1, (tak_rows pj tu).2, (tak_rows pj tv).2]
  refine zp_ite (fun e => zp_some (z fun w => w.2.2.1 (zo_inj (by omega) (by omega) e))) fun ne => zp_chk fun _ => zp_chk fun _ => zp_ite (fun e => zp_some (z fun w => w.1 e)) fun nl => zp_chk fun _ => zp_chk fun _ => zp_ite (fun nd => zp_some (z fun w => nd (cm.trans w.2.1))) fun yd => zp_bind (zp_mono (p_meets pj tu.1 tv.1 (fun e => ne (by rw [e])) tu.2.1 tv.2.1) fun r8 h8 => ?_)
  have nt : u / 24 ≠ v / 24 := fun e => ne (by rw [e])
  refine zp_ite (fun z8 => zp_some (z fun w => absurd (z8.symm.trans (h8.2.mpr w.2.2.2)) (by decide))) fun n8 => zp_some ⟨Or.inr rfl, fun _ => ⟨nl, cm.symm.trans (Classical.not_not.mp yd), nt, h8.2.mp (h8.1.resolve_left n8)⟩, fun _ => rfl⟩
noncomputable def G4 (σ : zS) (c2 : Nat) (len : Nat → Nat) (a b c : Nat) (d : Nat) : Int32 := gt (TAK σ c2 len d ∧ HLD σ c d ∧ HLD σ d a ∧ TOG σ len a d ∧ TOG σ len b d ∧ TOG σ len c d) 1
noncomputable def G3 (σ : zS) (c2 : Nat) (len : Nat → Nat) (a b : Nat) (c : Nat) : Int32 := gt (TAK σ c2 len c ∧ HLD σ b c ∧ TOG σ len a c ∧ TOG σ len b c) (gt (HLD σ c a) 1 + sm (G4 σ c2 len a b c) (24 * (a / 24 + 1)) (24 * c2 - 24 * (a / 24 + 1)))
noncomputable def G2 (σ : zS) (c2 : Nat) (len : Nat → Nat) (a : Nat) (b : Nat) : Int32 := gt (TAK σ c2 len b ∧ HLD σ a b ∧ TOG σ len a b) (gt (HLD σ b a) 1 + sm (G3 σ c2 len a b) (24 * (a / 24 + 1)) (24 * c2 - 24 * (a / 24 + 1)))
noncomputable def G1 (σ : zS) (c2 : Nat) (len : Nat → Nat) (a : Nat) : Int32 := gt (TAK σ c2 len a) (sm (G2 σ c2 len a) (24 * (a / 24 + 1)) (24 * c2 - 24 * (a / 24 + 1)))
theorem zo_nx {a : Nat} (ha : a < 96) : 24 * (Int32.ofNat a / 24 + 1) = Int32.ofNat (24 * (a / 24 + 1)) := by
  have dm := z_dm96 ⟨a, ha⟩
  dsimp only at dm
  rw [dm.1, zo_1 (by omega), zo_24 (by omega)]
theorem p_r197 {N : Nat} {σ : zS} {c2 : Nat} {len : Nat → Nat} {a b c : Nat} {k118 : zS → Int32 → Int32 → Int32 → Int32 → Int32 → Option (Int32 × zS)} {Q : Int32 × zS → Prop} (pj : PJ σ c2 len) (lk : LKS σ c2 len) (ta : TAK σ c2 len a) (tb : TAK σ c2 len b) (tc : TAK σ c2 len c) : ∀ (n v : Nat) (acc : Int32), v ≤ 96 → zp (k118 σ (Int32.ofNat (24 * c2)) (acc + sm (G4 σ c2 len a b c) v (24 * c2 - v)) (Int32.ofNat a) (Int32.ofNat b) (Int32.ofNat (c + 1))) Q → zp (zb_M_rings_197 k118 N n σ (Int32.ofNat (24 * c2)) acc (Int32.ofNat a) (Int32.ofNat b) (Int32.ofNat c) (Int32.ofNat v)) Q := by
  have hc := pj.1
  have bc := (tak_lt pj tc).2
  intro n
  induction n with
  | zero => intro _ _ _ _; exact zp_none
  | succ n ih =>
    intro v acc hv h
    rw [zb_M_rings_197]
    unfold zb_M_rings_274 zb_M_rings_268
    rw [zo_1 (m := c) (by omega), zo_1 (m := v) (by omega)]
    refine zp_ite (fun z => ?_) fun z => ?_
    · have := (zo_le (k := 24 * c2) (j := v) (by omega) (by omega)).mp z
      rw [show 24 * c2 - v = 0 by omega, sm, Int32.add_zero] at h
      exact h
    · have vl : v < 24 * c2 := by
        have : ¬ 24 * c2 ≤ v := fun w => z ((zo_le (by omega) (by omega)).mpr w)
        omega
      rw [show 24 * c2 - v = (24 * c2 - (v + 1)) + 1 by omega, sm] at h
      have skip : ¬ (TAK σ c2 len v ∧ HLD σ c v ∧ HLD σ v a ∧ TOG σ len a v ∧ TOG σ len b v ∧ TOG σ len c v) → zp (zb_M_rings_197 k118 N n σ (Int32.ofNat (24 * c2)) acc (Int32.ofNat a) (Int32.ofNat b) (Int32.ofNat c) (Int32.ofNat (v + 1))) Q := fun no => by
        rw [show G4 σ c2 len a b c v = 0 from gt_n no, Int32.zero_add] at h
        exact ih (v + 1) acc (by omega) h
      refine zp_bind (zp_mono (p_isTaking pj vl) fun r1 h1 => zp_ite (fun z => skip fun w => h1.n z w.1) fun y1 => ?_)
      have tv := h1.y y1
      refine zp_bind (zp_mono (p_isHeld pj lk tc tv) fun r2 h2 => zp_ite (fun z => skip fun w => h2.n z w.2.1) fun y2 => zp_bind (zp_mono (p_isHeld pj lk tv ta) fun r3 h3 => zp_ite (fun z => skip fun w => h3.n z w.2.2.1) fun y3 => zp_bind (zp_mono (p_goTog pj ta tv) fun r4 h4 => zp_ite (fun z => skip fun w => h4.n z w.2.2.2.1) fun y4 => zp_bind (zp_mono (p_goTog pj tb tv) fun r5 h5 => zp_ite (fun z => skip fun w => h5.n z w.2.2.2.2.1) fun y5 => zp_bind (zp_mono (p_goTog pj tc tv) fun r6 h6 => zp_ite (fun z => skip fun w => h6.n z w.2.2.2.2.2) fun y6 => ?_)))))
      rw [show G4 σ c2 len a b c v = 1 from gt_y ⟨tv, h2.y y2, h3.y y3, h4.y y4, h5.y y5, h6.y y6⟩, ← Int32.add_assoc] at h
      exact ih (v + 1) (acc + 1) (by omega) h
theorem p_r118 {N : Nat} {σ : zS} {c2 : Nat} {len : Nat → Nat} {a b : Nat} {k43 : zS → Int32 → Int32 → Int32 → Int32 → Option (Int32 × zS)} {Q : Int32 × zS → Prop} (pj : PJ σ c2 len) (lk : LKS σ c2 len) (ta : TAK σ c2 len a) (tb : TAK σ c2 len b) : ∀ (n v : Nat) (acc : Int32), v ≤ 96 → zp (k43 σ (Int32.ofNat (24 * c2)) (acc + sm (G3 σ c2 len a b) v (24 * c2 - v)) (Int32.ofNat a) (Int32.ofNat (b + 1))) Q → zp (zb_M_rings_118 k43 N n σ (Int32.ofNat (24 * c2)) acc (Int32.ofNat a) (Int32.ofNat b) (Int32.ofNat v)) Q := by
  have hc := pj.1
  have ba := (tak_lt pj ta).2
  have bb := (tak_lt pj tb).2
  intro n
  induction n with
  | zero => intro _ _ _ _; exact zp_none
  | succ n ih =>
    intro v acc hv h
    rw [zb_M_rings_118]
    unfold zb_M_rings_280 zb_M_rings_274 zb_M_rings_184
    rw [zo_1 (m := b) (by omega), zo_1 (m := v) (by omega), zo_nx ba]
    refine zp_ite (fun z => ?_) fun z => ?_
    · have := (zo_le (k := 24 * c2) (j := v) (by omega) (by omega)).mp z
      rw [show 24 * c2 - v = 0 by omega, sm, Int32.add_zero] at h
      exact h
    · have vl : v < 24 * c2 := by
        have : ¬ 24 * c2 ≤ v := fun w => z ((zo_le (by omega) (by omega)).mpr w)
        omega
      rw [show 24 * c2 - v = (24 * c2 - (v + 1)) + 1 by omega, sm] at h
      have skip : ¬ (TAK σ c2 len v ∧ HLD σ b v ∧ TOG σ len a v ∧ TOG σ len b v) → zp (zb_M_rings_118 k43 N n σ (Int32.ofNat (24 * c2)) acc (Int32.ofNat a) (Int32.ofNat b) (Int32.ofNat (v + 1))) Q := fun no => by
        rw [show G3 σ c2 len a b v = 0 from gt_n no, Int32.zero_add] at h
        exact ih (v + 1) acc (by omega) h
      refine zp_bind (zp_mono (p_isTaking pj vl) fun r1 h1 => zp_ite (fun z => skip fun w => h1.n z w.1) fun y1 => ?_)
      have tv := h1.y y1
      refine zp_bind (zp_mono (p_isHeld pj lk tb tv) fun r2 h2 => zp_ite (fun z => skip fun w => h2.n z w.2.1) fun y2 => zp_bind (zp_mono (p_goTog pj ta tv) fun r3 h3 => zp_ite (fun z => skip fun w => h3.n z w.2.2.1) fun y3 => zp_bind (zp_mono (p_goTog pj tb tv) fun r4 h4 => zp_ite (fun y4 => ?_) fun z => skip fun w => h4.n (Classical.not_not.mp z) w.2.2.2)))
      rw [show G3 σ c2 len a b v = gt (HLD σ v a) 1 + sm (G4 σ c2 len a b v) (24 * (a / 24 + 1)) (24 * c2 - 24 * (a / 24 + 1)) from gt_y ⟨tv, h2.y y2, h3.y y3, h4.y y4⟩] at h
      have go : ∀ x : Int32, x = gt (HLD σ v a) 1 → zp (zb_M_rings_197 (zb_M_rings_118 k43 N n) N N σ (Int32.ofNat (24 * c2)) (acc + x) (Int32.ofNat a) (Int32.ofNat b) (Int32.ofNat v) (Int32.ofNat (24 * (a / 24 + 1)))) Q := fun x hx => by
        refine p_r197 pj lk ta tb tv N _ (acc + x) (by omega) (ih (v + 1) _ (by omega) ?_)
        rw [hx, Int32.add_assoc, Int32.add_assoc]
        rw [Int32.add_assoc] at h
        exact h
      exact zp_bind (zp_mono (p_isHeld pj lk tv ta) fun r5 h5 => zp_ite (fun z => go 0 (z.symm.trans h5.gt)) fun y => go 1 ((h5.1.resolve_left y).symm.trans h5.gt))
theorem p_r43 {N : Nat} {σ : zS} {c2 : Nat} {len : Nat → Nat} {a : Nat} {k27 : zS → Int32 → Int32 → Int32 → Option (Int32 × zS)} {Q : Int32 × zS → Prop} (pj : PJ σ c2 len) (lk : LKS σ c2 len) (hv3 : a < 24 * c2) : ∀ (n v : Nat) (acc : Int32), v ≤ 96 → zp (k27 σ (Int32.ofNat (24 * c2)) (acc + gt (TAK σ c2 len a) (sm (G2 σ c2 len a) v (24 * c2 - v))) (Int32.ofNat (a + 1))) Q → zp (zb_M_rings_43 k27 N n σ (Int32.ofNat (24 * c2)) acc (Int32.ofNat a) (Int32.ofNat v)) Q := by
  have hc := pj.1
  have ba : a < 96 := by omega
  intro n
  induction n with
  | zero => intro _ _ _ _; exact zp_none
  | succ n ih =>
    intro v acc hv h
    rw [zb_M_rings_43]
    unfold zb_M_rings_286 zb_M_rings_280 zb_M_rings_105
    rw [zo_1 (m := a) (by omega), zo_1 (m := v) (by omega), zo_nx ba]
    refine zp_ite (fun z => ?_) fun z => ?_
    · have := (zo_le (k := 24 * c2) (j := v) (by omega) (by omega)).mp z
      rw [show 24 * c2 - v = 0 by omega, sm] at h
      have g0 : gt (TAK σ c2 len a) 0 = 0 := by
        by_cases t : TAK σ c2 len a
        · rw [gt_y t]
        · rw [gt_n t]
      rw [g0, Int32.add_zero] at h
      exact h
    · have vl : v < 24 * c2 := by
        have : ¬ 24 * c2 ≤ v := fun w => z ((zo_le (by omega) (by omega)).mpr w)
        omega
      refine zp_bind (zp_mono (p_isTaking pj hv3) fun r0 h0 => zp_ite (fun z => ?_) fun y0 => ?_)
      · rw [gt_n (h0.n z), Int32.add_zero] at h
        exact h
      have ta := h0.y y0
      rw [gt_y ta, show 24 * c2 - v = (24 * c2 - (v + 1)) + 1 by omega, sm] at h
      have nxt : ∀ x : Int32, zp (k27 σ (Int32.ofNat (24 * c2)) (x + sm (G2 σ c2 len a) (v + 1) (24 * c2 - (v + 1))) (Int32.ofNat (a + 1))) Q → zp (zb_M_rings_43 k27 N n σ (Int32.ofNat (24 * c2)) x (Int32.ofNat a) (Int32.ofNat (v + 1))) Q := fun x hx => ih (v + 1) x (by omega) (by rw [gt_y ta]; exact hx)
      have skip : ¬ (TAK σ c2 len v ∧ HLD σ a v ∧ TOG σ len a v) → zp (zb_M_rings_43 k27 N n σ (Int32.ofNat (24 * c2)) acc (Int32.ofNat a) (Int32.ofNat (v + 1))) Q := fun no => by
        rw [show G2 σ c2 len a v = 0 from gt_n no, Int32.zero_add] at h
        exact nxt acc h
      refine zp_bind (zp_mono (p_isTaking pj vl) fun r1 h1 => zp_ite (fun z => skip fun w => h1.n z w.1) fun y1 => ?_)
      have tv := h1.y y1
      refine zp_bind (zp_mono (p_isHeld pj lk ta tv) fun r2 h2 => zp_ite (fun z => skip fun w => h2.n z w.2.1) fun y2 => zp_bind (zp_mono (p_goTog pj ta tv) fun r3 h3 => zp_ite (fun y3 => ?_) fun z => skip fun w => h3.n (Classical.not_not.mp z) w.2.2))
      rw [show G2 σ c2 len a v = gt (HLD σ v a) 1 + sm (G3 σ c2 len a v) (24 * (a / 24 + 1)) (24 * c2 - 24 * (a / 24 + 1)) from gt_y ⟨tv, h2.y y2, h3.y y3⟩] at h
      have go : ∀ x : Int32, x = gt (HLD σ v a) 1 → zp (zb_M_rings_118 (zb_M_rings_43 k27 N n) N N σ (Int32.ofNat (24 * c2)) (acc + x) (Int32.ofNat a) (Int32.ofNat v) (Int32.ofNat (24 * (a / 24 + 1)))) Q := fun x hx => by
        refine p_r118 pj lk ta tv N _ (acc + x) (by omega) (nxt _ ?_)
        rw [hx, Int32.add_assoc, Int32.add_assoc]
        rw [Int32.add_assoc] at h
        exact h
      exact zp_bind (zp_mono (p_isHeld pj lk tv ta) fun r5 h5 => zp_ite (fun z => go 0 (z.symm.trans h5.gt)) fun y => go 1 ((h5.1.resolve_left y).symm.trans h5.gt))
theorem p_r27 {N : Nat} {σ : zS} {c2 : Nat} {len : Nat → Nat} (pj : PJ σ c2 len) (lk : LKS σ c2 len) : ∀ (n a : Nat) (acc : Int32), a ≤ 96 → zp (zb_M_rings_27 N n σ (Int32.ofNat (24 * c2)) acc (Int32.ofNat a)) (fun p => p.1 = acc + sm (G1 σ c2 len) a (24 * c2 - a)) := by
  have hc := pj.1
  intro n
  induction n with
  | zero => intro _ _ _; exact zp_none
  | succ n ih =>
    intro a acc ha
    rw [zb_M_rings_27]
    refine zp_ite (fun z => zp_some ?_) fun z => ?_
    · have := (zo_le (k := 24 * c2) (j := a) (by omega) (by omega)).mp z
      rw [show 24 * c2 - a = 0 by omega, sm, Int32.add_zero]
    · have al : a < 24 * c2 := by
        have : ¬ 24 * c2 ≤ a := fun w => z ((zo_le (by omega) (by omega)).mpr w)
        omega
      rw [zo_nx (by omega)]
      refine p_r43 pj lk al N _ acc (by omega) (zp_mono (ih (a + 1) _ (by omega)) fun p hp => ?_)
      rw [hp, show 24 * c2 - a = (24 * c2 - (a + 1)) + 1 by omega, sm, Int32.add_assoc]
      rfl
def c2f (a b : Nat) : Nat → Nat := fun j => if j = 1 then b else a
def c3f (a b c : Nat) : Nat → Nat := fun j => if j = 2 then c else c2f a b j
def c4f (a b c d : Nat) : Nat → Nat := fun j => if j = 3 then d else c3f a b c j
theorem add_eq {a b c d : Int32} (h : a = c) (g : b = d) : a + b = c + d := by rw [h, g]
theorem CR_1 {σ : zS} {c2 k a : Nat} {len : Nat → Nat} : CR σ c2 len (k + 1) 1 (fun _ => a) = sm (fun v => gt (TAK σ c2 len v ∧ HLD σ a v ∧ DIS σ a v ∧ FIT σ len a v) (CR σ c2 len k 2 (c2f a v))) (24 * (a / 24 + 1)) (24 * (c2 - (a / 24 + 1))) := by
  rw [CR, gt_n (fun w => absurd w.1 (by decide)), Int32.zero_add]
  exact sm_congr _ _ fun v _ _ => gt_same (fun _ _ => rfl) (fun w n => absurd ⟨w.1, w.2.1, w.2.2.1 0 (by decide), w.2.2.2 0 (by decide)⟩ n) fun w n => absurd ⟨w.1, w.2.1, fun _ _ => w.2.2.1, fun _ _ => w.2.2.2⟩ n
theorem CR_2 {σ : zS} {c2 k a b : Nat} {len : Nat → Nat} : CR σ c2 len (k + 1) 2 (c2f a b) = gt (HLD σ b a) 1 + sm (fun v => gt (TAK σ c2 len v ∧ HLD σ b v ∧ (DIS σ a v ∧ DIS σ b v) ∧ (FIT σ len a v ∧ FIT σ len b v)) (CR σ c2 len k 3 (c3f a b v))) (24 * (a / 24 + 1)) (24 * (c2 - (a / 24 + 1))) := by
  rw [CR]
  refine add_eq (gt_same (fun _ _ => rfl) (fun w n => absurd w.2 n) fun w n => absurd ⟨by decide, w⟩ n) (sm_congr _ _ fun v _ _ => gt_same (fun _ _ => rfl) (fun w n => absurd ⟨w.1, w.2.1, ⟨w.2.2.1 0 (by decide), w.2.2.1 1 (by decide)⟩, ⟨w.2.2.2 0 (by decide), w.2.2.2 1 (by decide)⟩⟩ n) fun w n => absurd ⟨w.1, w.2.1, fun i hi => ?_, fun i hi => ?_⟩ n)
  · match i, hi with
    | 0, _ => exact w.2.2.1.1
    | 1, _ => exact w.2.2.1.2
  · match i, hi with
    | 0, _ => exact w.2.2.2.1
    | 1, _ => exact w.2.2.2.2
theorem CR_3 {σ : zS} {c2 k a b c : Nat} {len : Nat → Nat} : CR σ c2 len (k + 1) 3 (c3f a b c) = gt (HLD σ c a) 1 + sm (fun v => gt (TAK σ c2 len v ∧ HLD σ c v ∧ (DIS σ a v ∧ DIS σ b v ∧ DIS σ c v) ∧ (FIT σ len a v ∧ FIT σ len b v ∧ FIT σ len c v)) (CR σ c2 len k 4 (c4f a b c v))) (24 * (a / 24 + 1)) (24 * (c2 - (a / 24 + 1))) := by
  rw [CR]
  refine add_eq (gt_same (fun _ _ => rfl) (fun w n => absurd w.2 n) fun w n => absurd ⟨by decide, w⟩ n) (sm_congr _ _ fun v _ _ => gt_same (fun _ _ => rfl) (fun w n => absurd ⟨w.1, w.2.1, ⟨w.2.2.1 0 (by decide), w.2.2.1 1 (by decide), w.2.2.1 2 (by decide)⟩, ⟨w.2.2.2 0 (by decide), w.2.2.2 1 (by decide), w.2.2.2 2 (by decide)⟩⟩ n) fun w n => absurd ⟨w.1, w.2.1, fun i hi => ?_, fun i hi => ?_⟩ n)
  · match i, hi with
    | 0, _ => exact w.2.2.1.1
    | 1, _ => exact w.2.2.1.2.1
    | 2, _ => exact w.2.2.1.2.2
  · match i, hi with
    | 0, _ => exact w.2.2.2.1
    | 1, _ => exact w.2.2.2.2.1
    | 2, _ => exact w.2.2.2.2.2
theorem CR_4 {σ : zS} {c2 a b c d : Nat} {len : Nat → Nat} : CR σ c2 len 0 4 (c4f a b c d) = gt (HLD σ d a) 1 := by
  rw [CR]
  exact gt_same (fun _ _ => rfl) (fun w n => absurd w.2 n) fun w n => absurd ⟨by decide, w⟩ n
theorem rings_same {σ : zS} {c2 : Nat} {len : Nat → Nat} (pj : PJ σ c2 len) (lk : LKS σ c2 len) : sm (fun v => gt (TAK σ c2 len v) (CR σ c2 len 3 1 (fun _ => v))) 0 96 = sm (G1 σ c2 len) 0 (24 * c2) := by
  have hc := pj.1
  have cut : sm (fun v => gt (TAK σ c2 len v) (CR σ c2 len 3 1 (fun _ => v))) 0 96 = sm (fun v => gt (TAK σ c2 len v) (CR σ c2 len 3 1 (fun _ => v))) 0 (24 * c2) := by
    have e : 96 = 24 * c2 + (96 - 24 * c2) := by omega
    have k := sm_add (f := fun v => gt (TAK σ c2 len v) (CR σ c2 len 3 1 (fun _ => v))) (24 * c2) 0 (96 - 24 * c2)
    rw [← e, sm_zero (96 - 24 * c2) (0 + 24 * c2) (fun v h1 _ => gt_n fun w => by have := w.1; omega), Int32.add_zero] at k
    exact k
  rw [cut]
  refine sm_congr _ _ fun a _ al => ?_
  unfold G1
  refine gt_same (fun ta _ => ?_) (fun a b => absurd a b) fun a b => absurd a b
  have sh : 24 * (c2 - (a / 24 + 1)) = 24 * c2 - 24 * (a / 24 + 1) := by omega
  have la := (lk.nat ta).1
  rw [CR_1, sh]
  refine sm_congr _ _ fun b _ _ => ?_
  unfold G2
  refine gt_same (fun w1 w2 => ?_) (fun w1 n => ?_) fun w2 n => absurd ⟨w2.1, w2.2.1, w2.2.2.2.1, w2.2.2.2.2⟩ n
  ·
    obtain ⟨tb, hab, dab, fab⟩ := w1
    have lb := (lk.nat tb).1
    rw [CR_2, sh]
    refine add_eq rfl (sm_congr _ _ fun c _ _ => ?_)
    unfold G3
    refine gt_same (fun w1 w2 => ?_) (fun w1 n => ?_) fun w3 n => absurd ⟨w3.1, w3.2.1, ⟨w3.2.2.1.2.1, w3.2.2.2.2.1⟩, ⟨w3.2.2.1.2.2, w3.2.2.2.2.2⟩⟩ n
    · obtain ⟨tc, hbc, ⟨dac, dbc⟩, ⟨fac, fbc⟩⟩ := w1
      have lc := (lk.nat tc).1
      rw [CR_3, sh]
      refine add_eq rfl (sm_congr _ _ fun d _ _ => ?_)
      unfold G4
      refine gt_same (fun w1 w2 => ?_) (fun w1 n => ?_) fun w3 n => absurd ⟨w3.1, w3.2.1, ⟨w3.2.2.2.1.2.1, w3.2.2.2.2.1.2.1, w3.2.2.2.2.2.2.1⟩, ⟨w3.2.2.2.1.2.2, w3.2.2.2.2.1.2.2, w3.2.2.2.2.2.2.2⟩⟩ n
      · rw [CR_4]
        exact gt_y w2.2.2.1
      · obtain ⟨td, hcd, ⟨dad, dbd, dcd⟩, ⟨fad, fbd, fcd⟩⟩ := w1
        rw [CR_4]
        refine gt_n fun hda => ?_
        unfold HLD at hab hbc hcd hda
        refine n ⟨td, hcd, hda, ⟨fun e => ?_, dad, fad⟩, ⟨fun e => ?_, dbd, fbd⟩, ⟨fun e => ?_, dcd, fcd⟩⟩
        · rw [← e] at hda
          exact dis_no la dab hda hab
        · rw [← e] at hda
          exact dis_no lb dac hda hbc
        · rw [← e] at hda
          exact dis_no lc dad hda hcd
    ·
      obtain ⟨tc, hbc, ⟨dac, dbc⟩, ⟨fac, fbc⟩⟩ := w1
      have eq : σ 8 a = σ 8 c ∨ σ 8 b = σ 8 c := Classical.byContradiction fun k => n ⟨tc, hbc, ⟨fun e => k (Or.inl e), dac, fac⟩, ⟨fun e => k (Or.inr e), dbc, fbc⟩⟩
      unfold HLD at hab hbc
      have n1 : ¬ HLD σ c a := fun hca => by
        unfold HLD at hca
        rcases eq with e | e
        · rw [← e] at hca
          exact dis_no la dab hca hab
        · rw [← e] at hca
          exact dis_no lb dac hca hbc
      rw [CR_3, gt_n n1, Int32.zero_add]
      refine sm_zero _ _ fun d _ _ => gt_n fun w => ?_
      have hcd := w.2.1
      unfold HLD at hcd
      rcases eq with e | e
      · rw [← e] at hcd
        exact dis_no la w.2.2.1.2.1 hab hcd
      · rw [← e] at hcd
        exact dis_no lb w.2.2.1.2.2 hbc hcd
  ·
    obtain ⟨tb, hab, dab, fab⟩ := w1
    have eq : σ 8 a = σ 8 b := Classical.byContradiction fun k => n ⟨tb, hab, ⟨k, dab, fab⟩⟩
    unfold HLD at hab
    have n1 : ¬ HLD σ b a := fun hba => by
      unfold HLD at hba
      rw [← eq] at hba
      exact dis_no la dab hba hab
    rw [CR_2, gt_n n1, Int32.zero_add]
    refine sm_zero _ _ fun c _ _ => gt_n fun w => ?_
    have hbc := w.2.1
    unfold HLD at hbc
    rw [← eq] at hbc
    exact dis_no la w.2.2.1.2 hab hbc
