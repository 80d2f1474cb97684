-- every method answers: totality within bounds, by invariants of the two states
set_option maxRecDepth 2000
/-! A SETTING -/
theorem q_assign_230 {N : Nat} (hN : zBig ≤ N) {σ0 σ A ρ : zS} {k : Nat} {Q : zS → Prop} (m : MS σ0 σ A ρ k) (hA : A 82 9 = 0 → JB σ0 A ∧ PS A (some k) ∧ WFS A none ∧ tb A ≤ k) (c : ρ 82 9 = 0 → SC ρ k (ρ 82 19)) (hQ : ∀ r, JP σ0 r none none → (r 82 9 = 0 → σ 82 5 < r 82 5) → Q r) : zq ((zf_M_take N ρ 59).bind fun r => some r) Q := by
  refine zq_bind (q_f_M_take hN m.b.q fun r j => ?_)
  have m2 := m.jq j
  refine hQ r (m2.fin hA (fun w => ?_)) m2.g
  have q : ρ 82 9 = 0 := Decidable.not_not.mp (fun u => j.fa u w)
  exact (c q).of (fun p hp => by rw [j.fr p (by omega) (by omega) (by omega)]) ⟨by rw [j.ff 19 (by omega)]; exact Int32.le_refl _, m.b.lt.1, Int32.le_trans m2.b.lt.2 (by decide)⟩
theorem q_assign_161 {N : Nat} (hN : zBig ≤ N) {σ0 σ A ρ : zS} {k : Nat} {v1 v4 : Int32} {Q : zS → Prop} (m : MS σ0 σ A ρ k) (hA : A 82 9 = 0 → JB σ0 A ∧ PS A (some k) ∧ WFS A none ∧ tb A ≤ k) (i4 : 0 ≤ v4 ∧ v4 < 96) (hk : v4.toNatClampNeg = k) (hc : ρ 82 9 = 0 → (v1 ≠ -1 ∧ ρ 92 k = 1 ∧ 0 ≤ ρ 93 k ∧ ρ 93 k ≤ 5) ∨ (v1 = -1 ∧ ρ 92 k = 2 ∧ ρ 93 k = -1 ∧ ρ 101 k = 0 ∧ 0 ≤ ρ 98 k ∧ ρ 98 k ≤ 2)) (hQ : ∀ r, JP σ0 r none none → (r 82 9 = 0 → σ 82 5 < r 82 5) → Q r) : zq (zb_M_assign_161 N ρ v1 v4) Q := by
  unfold zb_M_assign_161
  refine zq_bind (q_f_M_value hN m.b.q fun r14 j14 p14 => ?_)
  have m14 := m.jq j14
  refine zq_chk i4 fun _ => ?_
  rw [hk]
  have my : MS σ0 σ A (zx_up r14.2 99 k r14.1) k := m14.up (q := 99) (by simp) (fun _ => rfl)
  generalize hY : zx_up r14.2 99 k r14.1 = Y at *
  have y82 : Y 82 = r14.2 82 := by rw [← hY, zu_other (by decide)]
  have yq : ∀ p, p ≠ 82 → p ≠ 85 → p ≠ 86 → p ≠ 99 → Y p = ρ p := fun p a b c d => by rw [← hY, zu_other d]; exact j14.fr p a b c
  have y99 : Y 99 k = r14.1 := by rw [← hY, zx_up_same, zu_eq]
  have back : Y 82 9 = 0 → ρ 82 9 = 0 := fun w => Decidable.not_not.mp (fun u => j14.fa u (by rw [← y82]; exact w))
  have one : Y 82 9 = 0 → Y 99 k ≤ 10 := fun w => by rw [y99]; exact p14 (by rw [← y82]; exact w)
  have sc : (Y 82 9 = 0 → Y 92 k = 1 ∨ Y 101 k = 0) → zq (zb_M_assign_230 N Y) Q := by
    intro hh
    unfold zb_M_assign_230
    refine q_assign_230 hN my hA (fun w => ?_) hQ
    have hc := hc (back w)
    rw [← yq 92 (by decide) (by decide) (by decide) (by decide), ← yq 93 (by decide) (by decide) (by decide) (by decide), ← yq 98 (by decide) (by decide) (by decide) (by decide), ← yq 101 (by decide) (by decide) (by decide) (by decide)] at hc
    have o := one w
    rcases hc with ⟨_, k1, k2⟩ | ⟨_, k1, k2, k3, k4⟩
    · refine ⟨?_, ?_, ?_, ?_, ?_, ?_, ?_⟩
      · intro _; exact ⟨Int32.le_trans (by decide) k2.1, k2.2⟩
      · intro _; exact k2.1
      · intro q; rw [k1] at q; exact absurd q (by decide)
      · intro q; rw [k1] at q; exact absurd q (by decide)
      · intro q; rw [k1] at q; exact absurd q (by decide)
      · intro _; exact o
      · intro q; rw [k1] at q; exact absurd q (by rintro (h | h | h | ⟨h, _⟩) <;> exact absurd h (by decide))
    · refine ⟨?_, ?_, ?_, ?_, ?_, ?_, ?_⟩
      · intro _; rw [k2]; decide
      · intro q; rw [k1] at q; exact absurd q (by decide)
      · intro q; rw [k1] at q; exact absurd q (by decide)
      · intro q; rw [k1] at q; exact absurd q (by decide)
      · intro _; exact k4
      · intro _; exact o
      · intro q; rw [k1, k3] at q; exact absurd q (by decide)
  have e203 : v1 = -1 → Y 82 9 = 0 → zq (zb_M_assign_203 N Y v4) Q := by
    intro hv1 q9
    unfold zb_M_assign_203
    refine zq_chk i4 fun _ => ?_
    rw [hk]
    have mz : MS σ0 σ A (zx_up Y 101 k (Y 82 8)) k := my.up (q := 101) (by simp) (fun _ => rfl)
    refine zq_bind (q_f_M_next hN mz.b.q fun r22 j22 _ _ => ?_)
    have m22 := mz.jq j22
    refine zq_bind (q_f_M_value hN m22.b.q fun r23 j23 p23 => ?_)
    have m23 := m22.jq j23
    refine zq_chk i4 fun _ => ?_
    unfold zb_M_assign_230
    have mw : MS σ0 σ A (zx_up r23.2 100 k r23.1) k := m23.up (q := 100) (by simp) (fun _ => rfl)
    refine q_assign_230 hN mw hA (fun w => ?_) hQ
    rw [zu_other (by decide)] at w
    have f : ∀ p, p ≠ 82 → p ≠ 85 → p ≠ 86 → p ≠ 100 → p ≠ 101 → (zx_up r23.2 100 k r23.1) p = Y p := fun p a b c d e => by
      rw [zu_other d, j23.fr p a b c, j22.fr p a b c, zu_other e]
    have two : (zx_up r23.2 100 k r23.1) 100 k ≤ 10 := by rw [zx_up_same, zu_eq]; exact p23 w
    have hc := hc (back q9)
    rw [← yq 92 (by decide) (by decide) (by decide) (by decide), ← yq 93 (by decide) (by decide) (by decide) (by decide), ← yq 98 (by decide) (by decide) (by decide) (by decide)] at hc
    have o := one q9
    rcases hc with ⟨k0, _⟩ | ⟨_, k1, k2, k3, k4⟩
    · exact absurd hv1 k0
    · rw [← f 92 (by decide) (by decide) (by decide) (by decide) (by decide)] at k1
      rw [← f 93 (by decide) (by decide) (by decide) (by decide) (by decide)] at k2
      rw [← f 98 (by decide) (by decide) (by decide) (by decide) (by decide)] at k4
      rw [← f 99 (by decide) (by decide) (by decide) (by decide) (by decide)] at o
      refine ⟨?_, ?_, ?_, ?_, ?_, ?_, ?_⟩
      · intro _; rw [k2]; decide
      · intro q; rw [k1] at q; exact absurd q (by decide)
      · intro q; rw [k1] at q; exact absurd q (by decide)
      · intro q; rw [k1] at q; exact absurd q (by decide)
      · intro _; exact k4
      · intro _; exact o
      · intro _; exact two
  refine zq_ite (fun c => ?_) fun c => ?_
  · refine sc (fun w => ?_)
    rcases hc (back w) with ⟨_, k1, _⟩ | ⟨k0, _⟩
    · left; rw [yq 92 (by decide) (by decide) (by decide) (by decide)]; exact k1
    · exact absurd k0 c
  · have hv1 : v1 = -1 := Decidable.not_not.mp c
    have how0 : Y 82 9 = 0 → Y 92 k = 1 ∨ Y 101 k = 0 := fun w => by
      rcases hc (back w) with ⟨k0, _⟩ | ⟨_, _, _, k3, _⟩
      · exact absurd hv1 k0
      · right; rw [yq 101 (by decide) (by decide) (by decide) (by decide)]; exact k3
    refine zq_ite (fun c9 => sc how0) fun c9 => ?_
    have q9 : Y 82 9 = 0 := by rw [y82]; exact Decidable.not_not.mp c9
    refine zq_bind (q_f_M_isSign fun r19 _ => ?_)
    refine zq_ite (fun _ => e203 hv1 q9) fun _ => ?_
    refine zq_bind (q_f_M_isSign fun r25 _ => ?_)
    exact zq_ite (fun _ => sc how0) fun _ => e203 hv1 q9
theorem q_assign_56 {N : Nat} (hN : zBig ≤ N) {σ0 σ τ : zS} {v1 v2 s0 : Int32} {Q : zS → Prop} (h : JP σ0 τ none none) (c9 : τ 82 9 = 0) (h7 : ¬ τ 82 7 = 0) (mo : σ 82 5 ≤ τ 82 5) (hv : (v1 ≠ -1 ∧ s0 = 1 ∧ 0 ≤ v1 ∧ v1 ≤ 5) ∨ (v1 = -1 ∧ s0 = 2)) (h2 : 0 ≤ v2 ∧ v2 ≤ 2) (hQ : ∀ r, JP σ0 r none none → (r 82 9 = 0 → σ 82 5 < r 82 5) → Q r) : zq (zb_M_assign_56 N τ v1 v2 s0) Q := by
  unfold zb_M_assign_56
  refine zq_bind (q_f_M_addStep hN h.b (h.p c9).1 (h.p c9).2 c9 fun r6 p6 => ?_)
  obtain ⟨b6, jb6, ff6, as6⟩ := p6
  refine zq_ite (fun q6 => ?_) fun q6 => hQ _ ⟨jb6, fun q => absurd q q6⟩ (fun q => absurd q q6)
  obtain ⟨as, ps, ws⟩ := as6 q6
  rw [if_neg (by rcases hv with ⟨_, e, _⟩ | ⟨_, e⟩ <;> rw [e] <;> decide)] at ws
  have rb : tb r6.2 = tb τ := by unfold tb; rw [as.ff 39 (by decide)]
  have hA : r6.2 82 9 = 0 → JB σ0 r6.2 ∧ PS r6.2 (some (tb τ + tS τ)) ∧ WFS r6.2 none ∧ tb r6.2 ≤ tb τ + tS τ := fun _ => ⟨jb6, ps, ws, by omega⟩
  refine zq_bind (q_f_M_next hN jb6.q fun r8 j8 _ pr8 => ?_)
  have pr : σ 82 5 < r8 82 5 := by
    have := pr8 (by rw [as.ff 7 (by decide)]; exact h7)
    rw [as.ff 5 (by decide)] at this
    exact Int32.lt_of_le_of_lt mo this
  have m8 : MS σ0 σ r6.2 r8 (tb τ + tS τ) := ⟨jb6.to j8, fun _ => ⟨KE.jq j8, q6⟩, fun _ => pr⟩
  refine zq_bind (q_f_M_take hN m8.b.q fun r9 j9 => ?_)
  have m9 := m8.jq j9
  refine zq_ite (fun q9 => ?_) fun q9 => hQ _ ⟨m9.b, fun q => absurd q q9⟩ (fun q => absurd q q9)
  have e39 : r6.2 82 39 = τ 82 39 := as.ff 39 (by decide)
  obtain ⟨ib, ik⟩ := z_step (σ := τ) as.sv.1 as.sv.2 h.b.th
  rw [e39]
  refine zq_chk ib fun _ => zq_chk ib fun _ => ?_
  rw [ik]
  have mX : MS σ0 σ r6.2 (zx_up (zx_up r9 98 (tb τ + tS τ) v2) 101 (tb τ + tS τ) 0) (tb τ + tS τ) := (m9.up (q := 98) (by simp) (fun _ => rfl)).up (q := 101) (by simp) (fun _ => rfl)
  have f9 : ∀ p, p ≠ 82 → p ≠ 85 → p ≠ 86 → r9 p = r6.2 p := fun p a b c => (j9.fr p a b c).trans (j8.fr p a b c)
  generalize hX : zx_up (zx_up r9 98 (tb τ + tS τ) v2) 101 (tb τ + tS τ) 0 = X at *
  have x82 : X 82 = r9 82 := by rw [← hX, zu_other (by decide), zu_other (by decide)]
  have x98 : X 98 (tb τ + tS τ) = v2 := by rw [← hX, zu_other (by decide), zx_up_same, zu_eq]
  have x101 : X 101 (tb τ + tS τ) = 0 := by rw [← hX, zx_up_same, zu_eq]
  have x92 : X 92 (tb τ + tS τ) = s0 := by rw [← hX, zu_other (by decide), zu_other (by decide), f9 92 (by decide) (by decide) (by decide)]; exact as.kd
  have x93 : X 93 (tb τ + tS τ) = v1 := by rw [← hX, zu_other (by decide), zu_other (by decide), f9 93 (by decide) (by decide) (by decide)]; exact as.wh
  have e161 : zq (zb_M_assign_161 N X v1 (24 * τ 82 39 + r6.1)) Q := by
    refine q_assign_161 hN mX hA ib ik (fun _ => ?_) hQ
    rw [x92, x93, x98, x101]
    rcases hv with ⟨a, b, c⟩ | ⟨a, b⟩
    · exact Or.inl ⟨a, b, c⟩
    · exact Or.inr ⟨a, b, a, rfl, h2⟩
  refine zq_ite (fun _ => e161) fun cv => ?_
  have hv1 : v1 = -1 := Decidable.not_not.mp cv
  refine zq_ite (fun _ => e161) fun c7 => ?_
  have x7 : X 82 7 = 2 := by rw [x82]; exact Decidable.not_not.mp c7
  obtain ⟨r28, er28, p28⟩ := zq_get (q_f_M_fieldHere hN mX.b.q x7 (Q := fun r => r = -1 ∨ (0 ≤ r ∧ r < X 82 15)) fun r p => p)
  rw [er28]
  refine zq_bind (show zq (some r28) _ from ?_)
  show zq (if r28 = -1 then _ else _) Q
  refine zq_ite (fun _ => e161) fun c28 => ?_
  have p28 := p28.resolve_left c28
  refine zq_chk ib fun _ => ?_
  have ey : zf_M_fieldHere N (zx_up X 92 (tb τ + tS τ) 0) = some r28 := by
    rw [fieldHere_congr (σ := X) (zu_other (by decide)) (zu_other (by decide)) (zu_other (by decide)) (zu_other (by decide))]; exact er28
  rw [ey]
  refine zq_bind (show zq (some r28) _ from ?_)
  show zq (if _ then _ else none) Q
  refine zq_chk ib fun _ => ?_
  have n13 : X 92 (tb τ + tS τ) ≠ 13 := by
    rw [x92]; rcases hv with ⟨_, e, _⟩ | ⟨_, e⟩ <;> rw [e] <;> decide
  have mY : MS σ0 σ r6.2 (zx_up (zx_up X 92 (tb τ + tS τ) 0) 93 (tb τ + tS τ) r28) (tb τ + tS τ) := (mX.up92 (by decide) (fun _ => ⟨rfl, n13⟩)).up (q := 93) (by simp) (fun _ => rfl)
  refine zq_bind (q_f_M_next hN mY.b.q fun r33 j33 _ _ => ?_)
  have m33 := mY.jq j33
  unfold zb_M_assign_230
  refine q_assign_230 hN m33 hA (fun w => ?_) hQ
  have g : ∀ p, p ≠ 82 → p ≠ 85 → p ≠ 86 → p ≠ 92 → p ≠ 93 → r33 p = X p := fun p a b c d e => by rw [j33.fr p a b c, zu_other e, zu_other d]
  have k92 : r33 92 (tb τ + tS τ) = 0 := by rw [j33.fr 92 (by decide) (by decide) (by decide), zu_other (by decide), zx_up_same, zu_eq]
  have k93 : r33 93 (tb τ + tS τ) = r28 := by rw [j33.fr 93 (by decide) (by decide) (by decide), zx_up_same, zu_eq]
  have nf := mX.b.nf
  have r5 : 0 ≤ r28 ∧ r28 ≤ 5 := by
    have := p28.1; have := p28.2
    clear hQ hv hA h as ps ws mX m9 m8 mY m33 j8 j9 j33 er28 ey e161
    generalize X 82 15 = F at *
    grind
  refine ⟨?_, ?_, ?_, ?_, ?_, ?_, ?_⟩
  · intro _; rw [k93]; exact ⟨Int32.le_trans (by decide) r5.1, r5.2⟩
  · intro _; rw [k93]; exact r5.1
  · intro q; rw [k92] at q; exact absurd q (by decide)
  · intro q; rw [k92] at q; exact absurd q (by decide)
  · intro _; rw [g 98 (by decide) (by decide) (by decide) (by decide) (by decide), x98]; exact h2
  · intro q; rw [k92] at q; exact absurd q (by decide)
  · intro q; rw [k92] at q; exact absurd q (by rintro (h | h | h | ⟨h, _⟩) <;> exact absurd h (by decide))
theorem q_f_M_assign {N : Nat} (hN : zBig ≤ N) {σ0 σ : zS} {Q : zS → Prop} (h : JP σ0 σ none none) (c9 : σ 82 9 = 0) (h7 : σ 82 7 = 2) (hQ : ∀ r, JP σ0 r none none → (r 82 9 = 0 → σ 82 5 < r 82 5) → Q r) : zq (zf_M_assign N σ) Q := by
  have nf := h.b.nf
  have n7 : ¬ σ 82 7 = 0 := by rw [h7]; decide
  unfold zf_M_assign
  refine zq_bind (q_f_M_fieldHere hN h.b.q h7 fun r1 p1 => ?_)
  have e22 : zq (zb_M_assign_22 N σ r1) Q := by
    unfold zb_M_assign_22
    refine zq_ite (fun c => ?_) fun c => ?_
    · unfold zb_M_assign_36
      have p := p1.resolve_left c
      have r5 : 0 ≤ r1 ∧ r1 ≤ 5 := by
        have := p.1; have := p.2
        clear hQ h p1 n7
        generalize σ 82 15 = F at *
        grind
      refine zq_ite (fun _ => ?_) fun q => absurd c9 q
      refine zq_ite (fun _ => ?_) fun q => absurd c q
      exact q_assign_56 hN h c9 n7 (Int32.le_refl _) (Or.inl ⟨c, rfl, r5⟩) (by decide) hQ
    · have e : r1 = -1 := Decidable.not_not.mp c
      refine zq_bind (q_f_M_local hN h.b.q h7 fun r34 j34 p34 t34 => ?_)
      have h34 := h.to j34
      unfold zb_M_assign_36
      refine zq_ite (fun q => ?_) fun q => hQ _ ⟨h34.b, fun w => absurd w q⟩ (fun w => absurd w q)
      refine zq_ite (fun w => absurd e w) fun _ => ?_
      exact q_assign_56 hN h34 q (by rw [t34 7 (by decide)]; exact n7) (by rw [t34 5 (by decide)]; exact Int32.le_refl _) (Or.inr ⟨e, rfl⟩) p34 hQ
  refine zq_ite (fun _ => e22) fun _ => ?_
  refine zq_bind (q_f_M_isTold hN h.b.q h7 fun r35 => ?_)
  refine zq_ite (fun _ => e22) fun _ => zq_bind (q_f_M_cannot fun r a b => hQ _ ⟨h.b.to (FF.jq h.b.q a b), fun w => absurd w b⟩ (fun w => absurd w b))
/-! A STATEMENT -/
theorem JP.base {σ0 σ : zS} {bd pd : Option Nat} (h : JP σ0 σ bd pd) : JP σ σ bd pd := ⟨h.b.refl, h.p⟩
theorem JP.trans {σ0 σ r : zS} {bd pd : Option Nat} (b : JB σ0 σ) (h : JP σ r bd pd) : JP σ0 r bd pd := ⟨b.trans h.b, h.p⟩
theorem MS.tn {σ0 σ A ρ r : zS} {k : Nat} (m : MS σ0 σ A ρ k) (b : JB σ0 r) (j : TN ρ r) (hl : ρ 82 9 = 0 → ρ 82 19 = A 82 19) : MS σ0 σ A r k := by
  refine ⟨b, fun q => ?_, fun q => ?_⟩
  · have q0 : ρ 82 9 = 0 := Decidable.not_not.mp (fun w => j.fa w q)
    obtain ⟨e1, e2⟩ := m.e q0
    exact ⟨e1.trans (KE.tn j) (by have := j.la.2; rw [hl q0] at this; exact this), e2⟩
  · exact Int32.lt_of_lt_of_le (m.g (Decidable.not_not.mp (fun w => j.fa w q))) j.mo
theorem MS.up40 {σ0 σ A ρ : zS} {k : Nat} {v : Int32} (m : MS σ0 σ A ρ k) : MS σ0 σ A (zx_up ρ 82 40 v) k := by
  have z : ∀ i, i ≠ 40 → (zx_up ρ 82 40 v) 82 i = ρ 82 i := fun i h => by rw [zx_up_same, zu_ne h]
  refine ⟨m.b.of (fun q hq => zu_other (by omega)) (fun i _ b _ => z i b) (zu_other (by decide)), fun w => ?_, fun w => ?_⟩
  · rw [z 9 (by decide)] at w
    obtain ⟨e1, e2⟩ := m.e w
    refine ⟨⟨fun q a b c d x y g i j l => by rw [zu_other a]; exact e1.fr q a b c d x y g i j l, fun q i hq hi => by rw [zu_other (by omega)]; exact e1.fk q i hq hi, fun i hi => by rw [z i (by omega)]; exact e1.ff i hi, by rw [z 19 (by decide)]; exact e1.la, by rw [zu_other (by decide)]; exact e1.kd⟩, e2⟩
  · rw [z 9 (by decide)] at w; rw [z 5 (by decide)]; exact m.g w
theorem sc_lock {ρ : zS} {k : Nat} {L v : Int32} (hk : ρ 92 k = 3 ∨ ρ 92 k = 7 ∨ ρ 92 k = 8 ∨ ρ 92 k = 9) (hv : ρ 93 k = v) (b : 0 ≤ v ∧ v ≤ 3) : SC ρ k L := by
  have n : ¬ (ρ 92 k = 0) ∧ ¬ (ρ 92 k = 1) ∧ ¬ (ρ 92 k = 2) ∧ ¬ (ρ 92 k = 5) ∧ ¬ (ρ 92 k = 6) ∧ ¬ (ρ 92 k = 10) ∧ ¬ (ρ 92 k = 11) ∧ ¬ (ρ 92 k = 12) := by
    rcases hk with e | e | e | e <;> rw [e] <;> decide
  obtain ⟨n0, n1, n2, n5, n6, n10, n11, n12⟩ := n
  refine ⟨?_, ?_, ?_, ?_, ?_, ?_, ?_⟩
  · intro _; rw [hv]; exact ⟨Int32.le_trans (by decide) b.1, Int32.le_trans b.2 (by decide)⟩
  · intro q; exact absurd q (fun q => q.elim n0 n1)
  · intro _; rw [hv]; exact b
  · intro q; exact absurd q (fun q => q.elim n10 n11)
  · intro q; exact absurd q (fun q => q.elim n0 n2)
  · intro q; exact absurd q (by rintro (h | h | h | h | h) <;> contradiction)
  · intro q; exact absurd q (by rintro (h | h | h | ⟨h, _⟩) <;> contradiction)
theorem sc_test {ρ : zS} {k : Nat} {L : Int32} (hk : ρ 92 k = 5 ∨ ρ 92 k = 6 ∨ ρ 92 k = 12) (hv : ρ 93 k = -1) (b1 : ρ 99 k ≤ 10) (b2 : ρ 100 k ≤ 10) : SC ρ k L := by
  have n : ¬ (ρ 92 k = 0) ∧ ¬ (ρ 92 k = 1) ∧ ¬ (ρ 92 k = 2) ∧ ¬ (ρ 92 k = 3) ∧ ¬ (ρ 92 k = 4) ∧ ¬ (ρ 92 k = 7) ∧ ¬ (ρ 92 k = 8) ∧ ¬ (ρ 92 k = 9) ∧ ¬ (ρ 92 k = 10) ∧ ¬ (ρ 92 k = 11) := by
    rcases hk with e | e | e <;> rw [e] <;> decide
  obtain ⟨n0, n1, n2, n3, n4, n7, n8, n9, n10, n11⟩ := n
  refine ⟨?_, ?_, ?_, ?_, ?_, ?_, ?_⟩
  · intro _; rw [hv]; decide
  · intro q; exact absurd q (fun q => q.elim n0 n1)
  · intro q; exact absurd q (by rintro (h | h | h | h | h) <;> contradiction)
  · intro q; exact absurd q (fun q => q.elim n10 n11)
  · intro q; exact absurd q (fun q => q.elim n0 n2)
  · intro _; exact b1
  · intro _; exact b2
theorem sc_stop {ρ : zS} {k : Nat} {L : Int32} (hk : ρ 92 k = 13) (hv : ρ 93 k = -1) : SC ρ k L := by
  refine ⟨?_, ?_, ?_, ?_, ?_, ?_, ?_⟩
  · intro _; rw [hv]; decide
  all_goals (rw [hk]; intro q)
  · exact absurd q (by decide)
  · exact absurd q (by decide)
  · exact absurd q (by decide)
  · exact absurd q (by decide)
  · exact absurd q (by decide)
  · exact absurd q (by rintro (h | h | h | ⟨h, _⟩) <;> exact absurd h (by decide))
theorem sc_thread {ρ : zS} {k : Nat} {L v : Int32} (hk : ρ 92 k = 10 ∨ ρ 92 k = 11) (hv : ρ 93 k = v) (b : 0 ≤ v ∧ v < 4 + L) : SC ρ k L := by
  have n : ¬ (ρ 92 k = 0) ∧ ¬ (ρ 92 k = 1) ∧ ¬ (ρ 92 k = 2) ∧ ¬ (ρ 92 k = 3) ∧ ¬ (ρ 92 k = 4) ∧ ¬ (ρ 92 k = 5) ∧ ¬ (ρ 92 k = 6) ∧ ¬ (ρ 92 k = 7) ∧ ¬ (ρ 92 k = 8) ∧ ¬ (ρ 92 k = 9) ∧ ¬ (ρ 92 k = 12) := by
    rcases hk with e | e <;> rw [e] <;> decide
  obtain ⟨n0, n1, n2, n3, n4, n5, n6, n7, n8, n9, n12⟩ := n
  refine ⟨?_, ?_, ?_, ?_, ?_, ?_, ?_⟩
  · intro q; exact absurd hk q
  · intro q; exact absurd q (fun q => q.elim n0 n1)
  · intro q; exact absurd q (by rintro (h | h | h | h | h) <;> contradiction)
  · intro _; rw [hv]; exact b
  · intro q; exact absurd q (fun q => q.elim n0 n2)
  · intro q; exact absurd q (by rintro (h | h | h | h | h) <;> contradiction)
  · intro q; exact absurd q (by rintro (h | h | h | ⟨h, _⟩) <;> contradiction)
theorem q_f_M_statement {N : Nat} (hN : zBig ≤ N) {σ0 σ : zS} {Q : zS → Prop} (h : JP σ0 σ none none) (c9 : σ 82 9 = 0) (hQ : ∀ r, JP σ0 r none none → (r 82 9 = 0 → σ 82 5 < r 82 5) → Q r) : zq (zf_M_statement N σ) Q := by
  have can : zq ((zf_M_cannot σ).bind fun r => some r) Q := zq_bind (q_f_M_cannot fun r a b => hQ _ ⟨h.b.to (FF.jq h.b.q a b), fun w => absurd w b⟩ (fun w => absurd w b))
  have th := h.b.th
  -- the end with ';' of a step whose subject has just been put
  have end93 : ∀ (r : Int32 × zS) (ρ : zS) (k : Nat) (i v : Int32), MS σ0 σ r.2 ρ k → (r.2 82 9 = 0 → JB σ0 r.2 ∧ PS r.2 (some k) ∧ WFS r.2 none ∧ tb r.2 ≤ k) → (ρ 82 9 = 0 → i.toNatClampNeg = k) → (ρ 82 9 = 0 → SC (zx_up ρ 93 k v) k (ρ 82 19)) → zq ((zf_M_take N (zx_up ρ 93 i.toNatClampNeg v) 59).bind fun r => some r) Q := by
    intro r ρ k i v m hA hi sc
    refine q_assign_230 hN (m.up (q := 93) (by simp) hi) hA (fun w => ?_) hQ
    rw [zu_other (by decide)] at w ⊢
    rw [hi w]; exact sc w
  unfold zf_M_statement
  refine zq_ite (fun c7 => ?_) fun c7 => ?_
  · refine zq_ite (fun c5 => ?_) fun _ => can
    have n7 : ¬ σ 82 7 = 0 := by rw [c5]; decide
    refine zq_ite (fun w3 => ?_) fun _ => ?_
    · -- lock
      refine q_step2 hN h c9 n7 fun r ρ b m p hA e39 => ?_
      obtain ⟨ib, _⟩ := z_idx (t := σ 82 39) th b
      refine zq_bind (q_f_M_lockNamed hN m.b.q fun r66 j66 v66 n66 => ?_)
      have m66 := m.jq j66
      refine zq_chk ib fun _ => ?_
      have back : r66.2 82 9 = 0 → ρ 82 9 = 0 := fun w => Decidable.not_not.mp (fun u => j66.fa u w)
      have m93 : MS σ0 σ r.2 (zx_up r66.2 93 (24 * σ 82 39 + r.1).toNatClampNeg r66.1) (tb σ + tS σ) := m66.up (q := 93) (by simp) (fun w => (p (back w)).2.2.2.1)
      have hA' : r.2 82 9 = 0 → JB σ0 r.2 ∧ PS r.2 (some (tb σ + tS σ)) ∧ WFS r.2 none ∧ tb r.2 ≤ tb σ + tS σ := fun w => by
        have := hA w
        rw [if_neg (by decide)] at this
        exact ⟨this.1, this.2.1, this.2.2.1, this.2.2.2.1⟩
      -- the block
      have op : ∀ (Y : zS), MS σ0 σ r.2 Y (tb σ + tS σ) → (Y 82 9 = 0 → r66.2 82 9 = 0 ∧ (∀ q, q ≠ 82 → q ≠ 93 → Y q = r66.2 q) ∧ Y 93 (tb σ + tS σ) = r66.1) → zq (zb_M_statement_153 N Y r.1) Q := by
        intro Y mY hY
        have jY : JP σ0 Y none none := mY.fin hA' (fun w => by
          obtain ⟨a, f, g⟩ := hY w
          refine sc_lock (v := r66.1) (Or.inl ?_) g ⟨n66 a, v66.2⟩
          rw [f 92 (by decide) (by decide), j66.fr 92 (by decide) (by decide) (by decide)]; exact (p (back a)).1)
        unfold zb_M_statement_153
        refine zq_bind (q_f_M_openBlock hN jY.base (fun _ q => absurd q (by decide)) (by decide) (fun _ _ => rfl) (fun w _ => ?_) fun r69 j69 _ => ?_)
        · obtain ⟨a, f, g⟩ := hY w
          have e1 := (mY.e w).1
          have e2 := (mY.e w).2
          have t1 : tb Y = tb σ := by
            have : tb Y = tb r.2 := by unfold tb; rw [e1.ff 39 (by simp)]
            rw [this]; exact (hA e2).2.2.2.2.2
          have t2 : tS Y = tS σ + 1 := by
            have : tS Y = tS r.2 := by
              unfold tS
              rw [e1.ff 39 (by simp), e1.fr 90 (by decide) (by decide) (by decide) (by decide) (by decide) (by decide) (by decide) (by decide) (by decide) (by decide)]
            rw [this]; exact (hA e2).2.2.2.2.1
          exact ⟨tS σ, by omega, (p (back a)).2.2.2.2.1, by rw [t1, g]; exact n66 a, by rw [t1, g]; exact v66.2⟩
        · refine hQ _ (JP.trans jY.b j69) (fun w => ?_)
          have q : Y 82 9 = 0 := Decidable.not_not.mp (fun u => j69.b.fa u w)
          exact Int32.lt_of_lt_of_le (mY.g q) j69.b.mo
      refine zq_ite (fun c => ?_) fun c => ?_
      · refine op _ m93 (fun w => ?_)
        rw [zu_other (by decide)] at w
        exact absurd w c
      · refine zq_chk ib fun _ => ?_
        refine op _ m93.up40 (fun w => ?_)
        have q : r66.2 82 9 = 0 := Decidable.not_not.mp c
        refine ⟨q, fun x a b => by rw [zu_other a, zu_other b], ?_⟩
        rw [zu_other (by decide), zx_up_same, (p (back q)).2.2.2.1, zu_eq]
    · refine zq_ite (fun _ => can) fun _ => ?_
      -- a test and a block, or a test alone
      have tst : ∀ (x : Int32), (x = 5 ∨ x = 6 ∨ x = 12) → ∀ (r : Int32 × zS) (ρ : zS), (0 ≤ r.1 ∧ r.1 < 24) → MS σ0 σ r.2 ρ (tb σ + tS σ) → (ρ 82 9 = 0 → ρ 92 (tb σ + tS σ) = x ∧ ρ 93 (tb σ + tS σ) = -1 ∧ ρ 82 39 = σ 82 39 ∧ (24 * σ 82 39 + r.1).toNatClampNeg = tb σ + tS σ ∧ r.1.toInt = (tS σ : Int) ∧ (ρ 82 19).toInt < 96 ∧ ρ 82 19 = r.2 82 19) → ∀ {β : Type} (f : zS → Option β) {P : β → Prop}, (∀ ρ', MS σ0 σ r.2 ρ' (tb σ + tS σ) → (ρ' 82 9 = 0 → SC ρ' (tb σ + tS σ) (ρ' 82 19) ∧ r.1.toInt = (tS σ : Int)) → zq (f ρ') P) → zq ((zf_M_test N ρ r.1).bind f) P := by
        intro x hx r ρ b m p β f P hf
        refine zq_bind (q_f_M_test hN m b (fun w => by have q := p w; rw [q.2.2.1]; exact q.2.2.2.1) fun ρ' m' p' e' => hf ρ' m' (fun w => ?_))
        obtain ⟨q, a1, a2, a3, a4⟩ := p' w
        have pq := p q
        exact ⟨sc_test (by rw [a1, pq.1]; exact hx) (by rw [a2]; exact pq.2.1) a3 a4, pq.2.2.2.2.1⟩
      -- 'if' and 'while'
      have blk : ∀ (x y : Int32), (x = 5 ∨ x = 6) → (y = 3 ∨ y = 5) → zq ((zf_M_addStep N σ x (-1)).bind fun r => (zf_M_nextIfWell N r.2).bind fun ρ => (zf_M_test N ρ r.1).bind fun ρ' => (zf_M_openBlock N ρ' y r.1).bind fun u => some u) Q := by
        intro x y hx hy
        refine q_step2 hN h c9 n7 fun r ρ b m p hA e39 => ?_
        refine tst x (hx.elim Or.inl (fun q => Or.inr (Or.inl q))) r ρ b m p _ fun ρ' m' p' => ?_
        have jY : JP σ0 ρ' none (some (tS σ)) := m'.fin (fun w => by
          have := hA w
          rw [if_pos hx] at this
          exact ⟨this.1, this.2.1, this.2.2.1, this.2.2.2.1⟩) (fun w => (p' w).1)
        refine zq_bind (q_f_M_openBlock hN jY.base (fun w _ => ⟨tS σ, rfl, (p' w).2⟩) (by rcases hy with e | e <;> rw [e] <;> decide) (fun _ q => absurd hy q) (fun _ q => by rcases hy with e | e <;> rw [e] at q <;> exact absurd q (by decide)) fun r69 j69 _ => ?_)
        refine hQ _ (JP.trans jY.b j69) (fun w => ?_)
        have q : ρ' 82 9 = 0 := Decidable.not_not.mp (fun u => j69.b.fa u w)
        exact Int32.lt_of_lt_of_le (m'.g q) j69.b.mo
      refine zq_ite (fun _ => blk 5 3 (by decide) (by decide)) fun _ => ?_
      refine zq_ite (fun _ => can) fun _ => ?_
      refine zq_ite (fun _ => blk 6 5 (by decide) (by decide)) fun _ => ?_
      -- 'wait', 'wake'
      have hA0 : ∀ {x : Int32} {r : Int32 × zS}, ¬ (x = 5 ∨ x = 6) → (r.2 82 9 = 0 → JB σ0 r.2 ∧ PS r.2 (some (tb σ + tS σ)) ∧ WFS r.2 (if x = 5 ∨ x = 6 then some (tS σ) else none) ∧ tb r.2 ≤ tb σ + tS σ ∧ tS r.2 = tS σ + 1 ∧ tb r.2 = tb σ) → r.2 82 9 = 0 → JB σ0 r.2 ∧ PS r.2 (some (tb σ + tS σ)) ∧ WFS r.2 none ∧ tb r.2 ≤ tb σ + tS σ := fun hx hA w => by
        have := hA w
        rw [if_neg hx] at this
        exact ⟨this.1, this.2.1, this.2.2.1, this.2.2.2.1⟩
      -- the lock's name, its number put, and ';'
      have named : ∀ (r : Int32 × zS) (ρ : zS), (0 ≤ r.1 ∧ r.1 < 24) → MS σ0 σ r.2 ρ (tb σ + tS σ) → (r.2 82 9 = 0 → JB σ0 r.2 ∧ PS r.2 (some (tb σ + tS σ)) ∧ WFS r.2 none ∧ tb r.2 ≤ tb σ + tS σ) → (ρ 82 9 = 0 → (ρ 92 (tb σ + tS σ) = 3 ∨ ρ 92 (tb σ + tS σ) = 7 ∨ ρ 92 (tb σ + tS σ) = 8 ∨ ρ 92 (tb σ + tS σ) = 9) ∧ (24 * σ 82 39 + r.1).toNatClampNeg = tb σ + tS σ) → zq ((zf_M_lockNamed N ρ).bind fun r42 => if 0 ≤ 24 * σ 82 39 + r.1 ∧ 24 * σ 82 39 + r.1 < 96 then (zf_M_take N (zx_up r42.2 93 (24 * σ 82 39 + r.1).toNatClampNeg r42.1) 59).bind fun r44 => some r44 else none) Q := by
        intro r ρ b m hA p
        obtain ⟨ib, _⟩ := z_idx (t := σ 82 39) th b
        refine zq_bind (q_f_M_lockNamed hN m.b.q fun r42 j42 v42 n42 => ?_)
        refine zq_chk ib fun _ => ?_
        have back : r42.2 82 9 = 0 → ρ 82 9 = 0 := fun w => Decidable.not_not.mp (fun u => j42.fa u w)
        refine end93 r r42.2 _ _ _ (m.jq j42) hA (fun w => (p (back w)).2) (fun w => ?_)
        refine sc_lock (v := r42.1) ?_ (by rw [zx_up_same, zu_eq]) ⟨n42 w, v42.2⟩
        rw [zu_other (by decide), j42.fr 92 (by decide) (by decide) (by decide)]
        exact (p (back w)).1
      refine zq_ite (fun _ => ?_) fun _ => ?_
      · refine q_step2 hN h c9 n7 fun r ρ b m p hA e39 => ?_
        exact named r ρ b m (hA0 (by decide) hA) (fun w => ⟨Or.inr (Or.inl (p w).1), (p w).2.2.2.1⟩)
      · refine zq_ite (fun _ => ?_) fun _ => ?_
        · refine q_step2 hN h c9 n7 fun r ρ b m p hA e39 => ?_
          have hA' := hA0 (x := 8) (by decide) hA
          obtain ⟨ib, _⟩ := z_idx (t := σ 82 39) th b
          have pl : zq (zb_M_statement_364 N ρ (24 * σ 82 39) r.1) Q := by
            unfold zb_M_statement_364
            exact named r ρ b m hA' (fun w => ⟨Or.inr (Or.inr (Or.inl (p w).1)), (p w).2.2.2.1⟩)
          refine zq_ite (fun _ => pl) fun q9 => ?_
          have q9 : ρ 82 9 = 0 := Decidable.not_not.mp q9
          refine zq_bind (q_f_M_isWord fun r45 _ => ?_)
          refine zq_ite (fun _ => pl) fun _ => ?_
          refine zq_chk ib fun _ => ?_
          rw [(p q9).2.2.2.1]
          have mZ : MS σ0 σ r.2 (zx_up ρ 92 (tb σ + tS σ) 9) (tb σ + tS σ) := m.up92 (by decide) (fun w => ⟨rfl, by rw [(p w).1]; decide⟩)
          refine zq_bind (q_f_M_next hN mZ.b.q fun r48 j48 _ _ => ?_)
          unfold zb_M_statement_364
          refine named r r48 b (mZ.jq j48) hA' (fun w => ⟨Or.inr (Or.inr (Or.inr ?_)), (p q9).2.2.2.1⟩)
          rw [j48.fr 92 (by decide) (by decide) (by decide), zx_up_same, zu_eq]
        · refine zq_ite (fun _ => can) fun _ => ?_
          have thr : ∀ x : Int32, (x = 10 ∨ x = 11) → zq (zb_M_statement_402 N σ (24 * σ 82 39) x) Q := by
            intro x hx
            unfold zb_M_statement_402
            refine q_step2 hN h c9 n7 fun r ρ b m p hA e39 => ?_
            have nx : ¬ (x = 5 ∨ x = 6) := by rcases hx with e | e <;> rw [e] <;> decide
            have hA' := hA0 nx hA
            obtain ⟨ib, _⟩ := z_idx (t := σ 82 39) th b
            refine zq_bind (q_f_M_threadNamed hN m.b (fun w => Int32.lt_iff_toInt_lt.mpr (p w).2.2.2.2.2.1) fun r34 j34 t34 v34 => ?_)
            refine zq_chk ib fun _ => ?_
            have back : r34.2 82 9 = 0 → ρ 82 9 = 0 := fun w => Decidable.not_not.mp (fun u => t34.fa u w)
            have m34 : MS σ0 σ r.2 r34.2 (tb σ + tS σ) := m.tn j34 t34 (fun w => (p w).2.2.2.2.2.2)
            refine end93 r r34.2 _ _ _ m34 hA' (fun w => (p (back w)).2.2.2.1) (fun w => ?_)
            refine sc_thread (v := r34.1) ?_ (by rw [zx_up_same, zu_eq]) (v34 w)
            rw [zu_other (by decide), t34.fr 92 (by decide) (by decide) (by decide) (by decide), (p (back w)).1]
            exact hx
          refine zq_ite (fun _ => zq_ite (fun _ => thr 11 (Or.inr rfl)) fun _ => thr 10 (Or.inl rfl)) fun _ => ?_
          refine zq_ite (fun _ => zq_ite (fun _ => thr 11 (Or.inr rfl)) fun _ => thr 10 (Or.inl rfl)) fun _ => ?_
          refine zq_ite (fun _ => ?_) fun _ => ?_
          · refine q_step2 hN h c9 n7 fun r ρ b m p hA e39 => ?_
            refine tst 12 (Or.inr (Or.inr rfl)) r ρ b m p _ fun ρ' m' p' => ?_
            exact q_assign_230 hN m' (hA0 (by decide) hA) (fun w => (p' w).1) hQ
          · refine zq_ite (fun _ => ?_) fun _ => ?_
            · refine q_step2 hN h c9 n7 fun r ρ b m p hA e39 => ?_
              exact q_assign_230 hN m (hA0 (by decide) hA) (fun w => sc_stop (p w).1 (p w).2.1) hQ
            · refine zq_ite (fun _ => ?_) fun _ => can
              refine zq_ite (fun _ => ?_) fun _ => can
              refine zq_ite (fun c6 => ?_) fun _ => ?_
              · -- 'span'
                refine zq_bind (q_f_M_next hN h.b.q fun r19 j19 _ pr19 => ?_)
                have pr := pr19 n7
                have h19 := h.to j19
                refine zq_bind (q_f_M_openBlock hN h19.base (fun _ q => absurd q (by decide)) (by decide) (fun _ _ => rfl) (fun _ q => absurd q (by decide)) fun r20 j20 ob => ?_)
                have e25 : r20 82 25 = σ 82 25 := (ob.ff 25 (by omega)).trans (j19.ff 25 (by omega))
                have ns := h.b.ns
                have b6 : (0 ≤ σ 82 25 ∧ σ 82 25 < 6) ∧ (0 ≤ σ 82 25 + 1 ∧ σ 82 25 + 1 ≤ 6) := by
                  have := ns.1; have := ns.2
                  clear hQ h j19 h19 j20 ob thr named hA0 tst blk end93 can
                  generalize σ 82 25 = V at *
                  grind
                rw [e25]
                refine zq_chk b6.1 fun _ => ?_
                have jp : JP σ0 r20 none none := JP.trans h19.b j20
                have mo20 : σ 82 5 < r20 82 5 := Int32.lt_of_lt_of_le pr j20.b.mo
                generalize hR : zx_up (zx_up (zx_up r20 82 41 (σ 82 25)) 91 (σ 82 25).toNatClampNeg (r20 82 39)) 82 25 (σ 82 25 + 1) = R
                have z82 : ∀ i, i ≠ 41 → i ≠ 25 → R 82 i = r20 82 i := fun i a b => by rw [← hR, zx_up_same, zu_ne b, zu_other (by decide), zx_up_same, zu_ne a]
                have z25 : R 82 25 = σ 82 25 + 1 := by rw [← hR, zx_up_same, zu_eq]
                have zq' : ∀ q, q ≠ 82 → q ≠ 91 → R q = r20 q := fun q a b => by rw [← hR, zu_other a, zu_other b, zu_other a]
                have z91 : R 91 = zu (r20 91) (σ 82 25).toNatClampNeg (r20 82 39) := by rw [← hR, zu_other (by decide), zx_up_same, zu_other (by decide)]
                refine hQ R ⟨?_, fun w => ?_⟩ (fun _ => by rw [z82 5 (by decide) (by decide)]; exact mo20)
                · obtain ⟨t1, t2, t3, t4, t5, t6, t7, t8⟩ := jp.b.tk
                  refine ⟨fun q hq => (zq' q (by omega) (by omega)).trans (jp.b.fr q hq), fun i hi => (z82 i (by omega) (by omega)).trans (jp.b.ff i hi), ⟨by rw [z82 4 (by decide) (by decide)]; exact t1, by rw [z82 5 (by decide) (by decide)]; exact t2, by rw [z82 6 (by decide) (by decide)]; exact t3, by rw [z82 5 (by decide) (by decide), z82 6 (by decide) (by decide)]; exact t4, by rw [z82 7 (by decide) (by decide), z82 6 (by decide) (by decide)]; exact t5, by rw [z82 7 (by decide) (by decide), z82 6 (by decide) (by decide)]; exact t6, by rw [z82 7 (by decide) (by decide), z82 8 (by decide) (by decide)]; exact t7, by rw [zq' 86 (by decide) (by decide)]; exact t8⟩, by rw [z82 5 (by decide) (by decide)]; exact jp.b.mo, by rw [z82 9 (by decide) (by decide)]; exact jp.b.fa, by rw [z82 18 (by decide) (by decide)]; exact jp.b.lc, by rw [z82 15 (by decide) (by decide)]; exact jp.b.nf, by rw [z82 16 (by decide) (by decide)]; exact jp.b.nl, by rw [z82 17 (by decide) (by decide)]; exact jp.b.nt, by rw [z82 19 (by decide) (by decide)]; exact jp.b.lt, by rw [zq' 90 (by decide) (by decide)]; exact jp.b.st, by rw [z82 39 (by decide) (by decide)]; exact jp.b.th, by rw [z82 46 (by decide) (by decide)]; exact jp.b.dp, by rw [z25]; exact b6.2⟩
                · rw [z82 9 (by decide) (by decide)] at w
                  obtain ⟨ps, own, lo, lw, wf⟩ := jp.p w
                  refine ⟨?_, own, lo, lw, wf.of (fun q hq => zq' q (by omega) (by omega)) (fun i hi => z82 i (by omega) (by omega))⟩
                  obtain ⟨a, b, d, e, g, k⟩ := ps
                  have e1 : tb R = tb r20 := by unfold tb; rw [z82 39 (by decide) (by decide)]
                  have e2 : tS R = tS r20 := by unfold tS; rw [z82 39 (by decide) (by decide), zq' 90 (by decide) (by decide)]
                  have e3 : tD R = tD r20 := by unfold tD; rw [z82 46 (by decide) (by decide)]
                  refine ⟨by rw [z82 17 (by decide) (by decide), z82 39 (by decide) (by decide)]; exact a, ?_, by rw [z82 39 (by decide) (by decide), zq' 90 (by decide) (by decide), zq' 92 (by decide) (by decide), zq' 94 (by decide) (by decide), zq' 95 (by decide) (by decide)]; exact d, by rw [z82 19 (by decide) (by decide), e1, e2]; exact e, ?_, by rw [e1, e2, e3, zq' 103 (by decide) (by decide), zq' 104 (by decide) (by decide), zq' 93 (by decide) (by decide)]; exact k⟩
                  · rw [z82 39 (by decide) (by decide), z82 19 (by decide) (by decide), zq' 90 (by decide) (by decide)]
                    intro t s h1' h2' h3'
                    exact (b t s h1' h2' h3').of (fun q hq => by rw [zq' q (by omega) (by omega)]) ⟨Int32.le_refl _, jp.b.lt.1, Int32.le_trans jp.b.lt.2 (by decide)⟩
                  · rw [z25, z82 17 (by decide) (by decide), z91]
                    intro v v0 v1
                    by_cases q : v = σ 82 25
                    · rw [q, zu_eq, a]
                      have tt := jp.b.th
                      refine ⟨tt.1, ?_⟩
                      clear hQ h j19 h19 j20 ob thr named hA0 tst blk end93 can jp b d e g k wf
                      generalize r20 82 39 = T at *
                      grind
                    · rw [zu_ne (fun e' => q (z_inj v0 ns.1 e'))]
                      refine g v v0 ?_
                      rw [e25]
                      clear hQ h j19 h19 j20 ob thr named hA0 tst blk end93 can jp b d e g k wf
                      generalize σ 82 25 = T at *
                      grind
              · exact zq_bind (q_f_M_fail fun r a b => hQ _ ⟨h.b.to (FF.jq h.b.q a b), fun w => absurd w b⟩ (fun w => absurd w b))
  · exact zq_bind (q_f_M_assign hN h c9 (Decidable.not_not.mp c7) hQ)
/-! A THREAD IS READ -/
def PB (σ : zS) : Prop :=
  (∀ t s : Nat, t < (σ 82 17).toNatClampNeg → s < (σ 90 t).toNatClampNeg → SC σ (24 * t + s) (σ 82 19)) ∧
  (∀ t s : Nat, t < (σ 82 17).toNatClampNeg → s < (σ 90 t).toNatClampNeg → okv (σ 94 (24 * t + s)) (σ 90 t).toNatClampNeg ∧ ((σ 92 (24 * t + s) = 5 ∨ σ 92 (24 * t + s) = 6) → okv (σ 95 (24 * t + s)) (σ 90 t).toNatClampNeg)) ∧
  ((σ 82 19).toInt ≤ 24 * (σ 82 17).toInt) ∧
  (∀ v : Int32, 0 ≤ v → v < σ 82 25 → 0 ≤ σ 91 v.toNatClampNeg ∧ σ 91 v.toNatClampNeg < σ 82 17)
theorem PB.sc {σ : zS} (h : PB σ) : ∀ t s : Nat, t < (σ 82 17).toNatClampNeg → s < (σ 90 t).toNatClampNeg → SC σ (24 * t + s) (σ 82 19) := h.1
theorem PB.lk {σ : zS} (h : PB σ) : ∀ t s : Nat, t < (σ 82 17).toNatClampNeg → s < (σ 90 t).toNatClampNeg → okv (σ 94 (24 * t + s)) (σ 90 t).toNatClampNeg ∧ ((σ 92 (24 * t + s) = 5 ∨ σ 92 (24 * t + s) = 6) → okv (σ 95 (24 * t + s)) (σ 90 t).toNatClampNeg) := h.2.1
theorem PB.la {σ : zS} (h : PB σ) : (σ 82 19).toInt ≤ 24 * (σ 82 17).toInt := h.2.2.1
theorem PB.sp {σ : zS} (h : PB σ) : ∀ v : Int32, 0 ≤ v → v < σ 82 25 → 0 ≤ σ 91 v.toNatClampNeg ∧ σ 91 v.toNatClampNeg < σ 82 17 := h.2.2.2
theorem PB.of {σ r : zS} (h : PB σ) (hL : 0 ≤ σ 82 19 ∧ σ 82 19 ≤ 96) (e : ∀ q, q = 90 ∨ q = 91 ∨ q = 92 ∨ q = 93 ∨ q = 94 ∨ q = 95 ∨ q = 98 ∨ q = 99 ∨ q = 100 ∨ q = 101 → r q = σ q) (f : ∀ i, i = 17 ∨ i = 19 ∨ i = 25 → r 82 i = σ 82 i) : PB r := by
  obtain ⟨a, b, c, d⟩ := h
  refine ⟨?_, by rw [f 17 (by simp), e 90 (by simp), e 92 (by simp), e 94 (by simp), e 95 (by simp)]; exact b, by rw [f 19 (by simp), f 17 (by simp)]; exact c, by rw [f 25 (by simp), f 17 (by simp), e 91 (by simp)]; exact d⟩
  rw [f 17 (by simp), f 19 (by simp), e 90 (by simp)]
  intro t s h1 h2
  exact (a t s h1 h2).of (fun q hq => by rw [e q (by omega)]) ⟨Int32.le_refl _, hL.1, Int32.le_trans hL.2 (by decide)⟩
theorem PB.jq {σ r : zS} (h : PB σ) (hL : 0 ≤ σ 82 19 ∧ σ 82 19 ≤ 96) (j : JQ σ r) : PB r := h.of hL (fun q hq => j.fr q (by omega) (by omega) (by omega)) (fun i hi => j.ff i (by omega))
theorem zmu_mono {a b : Int32} {n : Nat} (h : a < b) (hn : zmu a < n + 1) : zmu b < n := by
  have h1 := Int32.lt_iff_toInt_lt.mp h
  have h2 := z_hi b
  unfold zmu at hn ⊢
  omega
theorem q_readThread_155 {N : Nat} (hN : zBig ≤ N) {σ0 σ : zS} {Q : zS → Prop} (h : JP σ0 σ none none) (hd : σ 82 9 = 0 → σ 82 46 ≤ 0) (hQ : ∀ r, JB σ0 r → (r 82 9 = 0 → PB r) → Q r) : zq (zb_M_readThread_155 N σ) Q := by
  unfold zb_M_readThread_155
  refine zq_ite (fun c9 => ?_) fun c9 => hQ _ h.b (fun q => absurd q c9)
  have th := h.b.th
  refine zq_chk th fun _ => ?_
  obtain ⟨ps, own, lo, lw, wf⟩ := h.p c9
  have hD : tD σ = 0 := by
    unfold tD
    have := hd c9
    have e : σ 82 46 = 0 := by have := h.b.dp.1; clear hQ h wf ps; generalize σ 82 46 = V at *; grind
    rw [e]; rfl
  have eS : (σ 90 (σ 82 39).toNatClampNeg).toInt = (tS σ : Int) := (z_nat (h.b.st _).1).symm
  have S24 : tS σ ≤ 24 := z_t24 _ h.b.st
  unfold WFG at wf
  rw [hD] at wf
  refine zq_bind (q_f_M_lead hN (lo := lo) th wf.a fun r13 f13 => ?_)
  have ld := wf.lead (bh' := fun t => r13 94 (tb σ + t)) (ot' := fun t => r13 95 (tb σ + t)) (to := σ 90 (σ 82 39).toNatClampNeg) ⟨by omega, by omega⟩
    (fun t _ => by
      have := f13.b4 (tb σ + t)
      rw [this]
      simp only [Nat.le_add_right, true_and, Nat.add_sub_cancel_left])
    (fun t _ => by
      have := f13.b5 (tb σ + t)
      rw [this]
      simp only [Nat.le_add_right, true_and, Nat.add_sub_cancel_left])
  have G : ∀ i, i ≠ 37 → r13 82 i = σ 82 i := f13.ff
  have F : ∀ q, q ≠ 82 → q ≠ 94 → q ≠ 95 → r13 q = σ q := f13.fr
  have bok : ∀ s, s < tS σ → σ 92 (tb σ + s) ≠ 13 → okv (r13 94 (tb σ + s)) (tS σ) := by
    intro s hs hk
    rcases ld.f s hs hk with q | q | ⟨d, q, _⟩
    · exact q
    · exact (List.not_mem_nil q).elim
    · exact absurd q (Nat.not_lt_zero _)
  have ook : ∀ s, s < tS σ → (σ 92 (tb σ + s) = 5 ∨ σ 92 (tb σ + s) = 6) → okv (r13 95 (tb σ + s)) (tS σ) := by
    intro s hs hk
    rcases ld.g s hs hk with q | q | ⟨d, q, _⟩ | ⟨d, q, _⟩ | q
    · exact q
    · exact (List.not_mem_nil q).elim
    · exact absurd q (Nat.not_lt_zero _)
    · exact absurd q (Nat.not_lt_zero _)
    · cases q
  have H : ∀ (n : Nat) (ρ : zS) (v1 : Int32), (∀ q, q ≠ 94 → ρ q = r13 q) → (∀ i, i < tb σ → ρ 94 i = r13 94 i) → (∀ s, s < tS σ → (ρ 94 (tb σ + s) = r13 94 (tb σ + s) ∨ okv (ρ 94 (tb σ + s)) (tS σ))) → (∀ s, s < v1.toNatClampNeg → s < tS σ → okv (ρ 94 (tb σ + s)) (tS σ)) → 0 ≤ v1 → zmu v1 < n → zq (zb_M_readThread_178 N n ρ v1) Q := by
    intro n
    induction n with
    | zero => intro _ _ _ _ _ _ _ hn; exact absurd hn (Nat.not_lt_zero _)
    | succ n ih =>
      intro ρ v1 hf hlow hor hok h0 hn
      have e82 : ρ 82 = r13 82 := hf 82 (by decide)
      have e39 : ρ 82 39 = σ 82 39 := by rw [e82]; exact G 39 (by decide)
      have e90 : ρ 90 = σ 90 := (hf 90 (by decide)).trans (F 90 (by decide) (by decide) (by decide))
      have e92 : ρ 92 = σ 92 := (hf 92 (by decide)).trans (F 92 (by decide) (by decide) (by decide))
      rw [zb_M_readThread_178, e39, e90, e92]
      refine zq_chk th fun _ => ?_
      refine zq_ite (fun c1 => ?_) fun c1 => ?_
      · -- all is done
        have nv : tS σ ≤ v1.toNatClampNeg := by
          have a := z_nat h0
          have b := Int32.le_iff_toInt_le.mp c1
          omega
        have R82 : ∀ i, i ≠ 37 → ρ 82 i = σ 82 i := fun i hi => by rw [e82]; exact G i hi
        have RF : ∀ q, q ≠ 82 → q ≠ 94 → q ≠ 95 → ρ q = σ q := fun q a b c => (hf q b).trans (F q a b c)
        refine hQ ρ (h.b.of (fun q hq => RF q (by omega) (by omega) (by omega)) (fun i a _ _ => R82 i a) e90) (fun _ => ?_)
        obtain ⟨a, b, d, e, g, k⟩ := ps
        have e17 : (σ 82 17).toNatClampNeg = (σ 82 39).toNatClampNeg + 1 := by rw [a]; exact z_succn th.1 th.2
        have t17 : (σ 82 17).toInt = (σ 82 39).toInt + 1 := by rw [a]; exact z_succ th.2
        refine ⟨?_, ?_, ?_, by rw [R82 25 (by decide), R82 17 (by decide), RF 91 (by decide) (by decide) (by decide)]; exact g⟩
        · rw [R82 17 (by decide), R82 19 (by decide), e90, e17]
          intro t s h1 h2
          exact (b t s (by omega) h2 (by simp)).of (fun q hq => by rw [RF q (by omega) (by omega) (by omega)]) ⟨Int32.le_refl _, h.b.lt.1, Int32.le_trans h.b.lt.2 (by decide)⟩
        · rw [R82 17 (by decide), e90, e92, e17]
          intro t s h1 h2
          by_cases q : t = (σ 82 39).toNatClampNeg
          · subst q
            have hs : s < tS σ := h2
            show okv (ρ 94 (tb σ + s)) (tS σ) ∧ ((σ 92 (tb σ + s) = 5 ∨ σ 92 (tb σ + s) = 6) → okv (ρ 95 (tb σ + s)) (tS σ))
            refine ⟨hok s (by omega) hs, ?_⟩
            rw [hf 95 (by decide)]
            exact ook s hs
          · have l : 24 * t + s < tb σ := by
              have := z_t24 t h.b.st
              unfold tb
              omega
            rw [hlow _ l, hf 95 (by decide), f13.b4, f13.b5, if_neg (by omega), if_neg (by omega)]
            exact d t s (by omega) h2
        · rw [R82 19 (by decide), R82 17 (by decide)]
          simp only [if_true] at e
          have t1 := z_nat th.1
          have e' : (tb σ : Int) = 24 * (σ 82 39).toInt := by unfold tb; omega
          omega
      · have c1' := Int32.not_le.mp c1
        have sv : v1.toNatClampNeg < tS σ := by
          have a := z_nat h0
          have b := Int32.lt_iff_toInt_lt.mp c1'
          omega
        have ev : v1.toInt = (v1.toNatClampNeg : Int) := (z_nat h0).symm
        obtain ⟨ib, ik⟩ := z_step (σ := σ) ev (by omega) th
        refine zq_chk ib fun _ => ?_
        rw [ik]
        have nx : (v1 + 1).toNatClampNeg = v1.toNatClampNeg + 1 := z_succn h0 c1'
        have go : ∀ v : Int32, okv v (tS σ) → zq (zb_M_readThread_235 (zb_M_readThread_178 N n) N ρ v1 v (24 * σ 82 39 + v1)) Q := by
          intro v hv
          unfold zb_M_readThread_235
          refine zq_chk ib fun _ => ?_
          rw [ik]
          have z94 : (zx_up ρ 94 (tb σ + v1.toNatClampNeg) v) 94 = zu (ρ 94) (tb σ + v1.toNatClampNeg) v := zx_up_same
          refine ih _ (v1 + 1) (fun q hq => by rw [zu_other hq]; exact hf q hq) (fun i hi => by rw [z94, zu_ne (by omega)]; exact hlow i hi) (fun s hs => ?_) (fun s hs hs' => ?_) (by (first | with_reducible assumption | omega | grind)) (zmu_up c1 hn)
          · rw [z94]
            by_cases q : s = v1.toNatClampNeg
            · right; rw [q, zu_eq]; exact hv
            · rw [zu_ne (by omega)]; exact hor s hs
          · rw [z94]
            by_cases q : s = v1.toNatClampNeg
            · rw [q, zu_eq]; exact hv
            · rw [zu_ne (by omega)]; exact hok s (by omega) hs'
        refine zq_ite (fun c13 => ?_) fun c13 => ?_
        · refine zq_chk ib fun _ => go _ ?_
          rcases hor v1.toNatClampNeg sv with q | q
          · rw [q]; exact bok _ sv c13
          · exact q
        · refine zq_chk th fun _ => go _ ⟨by omega, by omega⟩
  exact H N r13 0 (fun _ _ => rfl) (fun _ _ => rfl) (fun _ _ => Or.inl rfl) (fun s hs => absurd hs (Nat.not_lt_zero _)) (by decide) (zmu_lt hN _)
theorem q_readThread_118 {N : Nat} (hN : zBig ≤ N) {σ0 : zS} {Q : zS → Prop} (hQ : ∀ r, JB σ0 r → (r 82 9 = 0 → PB r) → Q r) : ∀ (n : Nat) (σ : zS), JP σ0 σ none none → ((¬ σ 82 9 = 0 ∧ 0 < n) ∨ zmu (σ 82 5) + 1 < n) → zq (zb_M_readThread_118 N n σ) Q := by
  intro n
  induction n with
  | zero => intro σ _ hn; omega
  | succ n ih =>
    intro σ h hn
    rw [zb_M_readThread_118]
    refine zq_ite (fun c9 => q_readThread_155 hN h (fun q => absurd q c9) hQ) fun c9 => ?_
    have q9 : σ 82 9 = 0 := Decidable.not_not.mp c9
    have hn : zmu (σ 82 5) + 1 < n + 1 := hn.elim (fun q => absurd q9 q.1) id
    refine zq_ite (fun c => q_readThread_155 hN h (fun _ => c) hQ) fun c => ?_
    have d1 : 1 ≤ σ 82 46 := by
      have := Int32.not_le.mp c
      clear hQ ih h hn
      generalize σ 82 46 = V at *
      grind
    have go : ∀ r, JP σ0 r none none → (r 82 9 = 0 → σ 82 5 < r 82 5) → zq (zb_M_readThread_118 N n r) Q := by
      intro r jr pr
      refine ih r jr ?_
      by_cases q : r 82 9 = 0
      · right
        have := zmu_mono (n := zmu (σ 82 5)) (pr q) (by omega)
        omega
      · left; exact ⟨q, by omega⟩
    refine zq_bind (q_f_M_isSign fun r22 p22 => ?_)
    refine zq_ite (fun _ => zq_bind (q_f_M_statement hN h q9 go)) fun c22 => ?_
    refine zq_bind (q_f_M_closeBlock hN h q9 d1 ?_ go)
    rw [(p22.resolve_left c22).1]; decide
theorem q_f_M_readThread {N : Nat} (hN : zBig ≤ N) {σ0 σ : zS} {Q : zS → Prop} (h : JB σ0 σ) (hp : PB σ) (c9 : σ 82 9 = 0) (h7 : ¬ σ 82 7 = 0) (hQ : ∀ r, JB σ0 r → (r 82 9 = 0 → PB r ∧ σ 82 5 < r 82 5) → Q r) : zq (zf_M_readThread N σ) Q := by
  unfold zf_M_readThread
  refine zq_bind (q_f_M_next hN h.q fun r1 j1 f1 pr1 => ?_)
  have pr := pr1 h7
  have b1 := h.to j1
  have bad : ∀ (r : zS), FF r1 r → ¬ r 82 9 = 0 → Q r := fun r a b => hQ r (b1.to (FF.jq b1.q a b)) (fun q => absurd q b)
  refine zq_ite (fun c2 => ?_) fun _ => zq_bind (q_f_M_cannot fun r a b => bad r a b)
  refine zq_bind (q_f_M_isTold hN b1.q c2 fun r3 => ?_)
  refine zq_ite (fun _ => ?_) fun _ => zq_bind (q_f_M_fail fun r a b => bad r a b)
  refine zq_ite (fun c4 => ?_) fun _ => zq_bind (q_f_M_fail fun r a b => bad r a b)
  have nt := b1.nt
  have n3 : (0 ≤ r1 82 17 ∧ r1 82 17 < 4) ∧ (0 ≤ 10 + r1 82 17 ∧ 10 + r1 82 17 ≤ 112) ∧ (0 ≤ r1 82 17 + 1 ∧ r1 82 17 + 1 ≤ 4) := by
    have := nt.1; have := nt.2
    clear hQ h hp j1 f1 pr1 b1 bad
    generalize r1 82 17 = V at *
    grind
  refine zq_bind (q_f_M_call hN b1.q c2 n3.2.1 fun r6 j6 e6 => ?_)
  rw [e6]
  have b6 := b1.to j6
  have p6 : PB r6 := (hp.jq h.lt j1).jq b1.lt j6
  have n9 : r6 82 9 = 0 := by rw [e6]; exact (f1.ff 9 (by decide) (by decide) (by decide) (by decide)).trans c9
  generalize hX : zx_up (zx_up r6 82 39 (r1 82 17)) 82 17 (r1 82 17 + 1) = X
  have xq : ∀ q, q ≠ 82 → X q = r6 q := fun q hq => by rw [← hX, zu_other hq, zu_other hq]
  have x82 : ∀ i, i ≠ 17 → i ≠ 39 → X 82 i = r6 82 i := fun i a b => by rw [← hX, zx_up_same, zu_ne a, zx_up_same, zu_ne b]
  have x17 : X 82 17 = r1 82 17 + 1 := by rw [← hX, zx_up_same, zu_eq]
  have x39 : X 82 39 = r1 82 17 := by rw [← hX, zx_up_same, zu_ne (by decide), zx_up_same, zu_eq]
  have jX : JQ X X := by
    obtain ⟨t1, t2, t3, t4, t5, t6, t7, t8⟩ := b6.tk
    exact ⟨fun _ _ _ _ => rfl, fun _ _ => rfl, ⟨by rw [x82 4 (by decide) (by decide)]; exact t1, by rw [x82 5 (by decide) (by decide)]; exact t2, by rw [x82 6 (by decide) (by decide)]; exact t3, by rw [x82 5 (by decide) (by decide), x82 6 (by decide) (by decide)]; exact t4, by rw [x82 7 (by decide) (by decide), x82 6 (by decide) (by decide)]; exact t5, by rw [x82 7 (by decide) (by decide), x82 6 (by decide) (by decide)]; exact t6, by rw [x82 7 (by decide) (by decide), x82 8 (by decide) (by decide)]; exact t7, by rw [xq 86 (by decide)]; exact t8⟩, Int32.le_refl _, id, by rw [x82 18 (by decide) (by decide)]; exact b6.lc, by rw [x82 15 (by decide) (by decide)]; exact b6.nf, by rw [x82 16 (by decide) (by decide)]; exact b6.nl, by rw [x17]; exact n3.2.2, by rw [x82 19 (by decide) (by decide)]; exact b6.lt⟩
  refine zq_bind (q_f_M_next hN jX fun r7 j7 f7 _ => ?_)
  have e39 : r7 82 39 = r1 82 17 := (j7.ff 39 (by omega)).trans x39
  have e17 : r7 82 17 = r1 82 17 + 1 := (j7.ff 17 (by omega)).trans x17
  rw [e39]
  refine zq_chk n3.1 fun _ => ?_
  generalize hY : zx_up (zx_up (zx_up (zx_up (zx_up (zx_up r7 90 (r1 82 17).toNatClampNeg 0) 82 18 0) 82 46 0) 82 40 0) 82 41 (-1)) 82 37 (-1) = Y
  have yq : ∀ q, q ≠ 82 → q ≠ 90 → Y q = r7 q := fun q a b => by rw [← hY, zu_other a, zu_other a, zu_other a, zu_other a, zu_other a, zu_other b]
  have y82 : ∀ i, i ≠ 18 → i ≠ 37 → i ≠ 40 → i ≠ 41 → i ≠ 46 → Y 82 i = r7 82 i := fun i a b c d e => by rw [← hY, zx_up_same, zu_ne b, zx_up_same, zu_ne d, zx_up_same, zu_ne c, zx_up_same, zu_ne e, zx_up_same, zu_ne a, zu_other (by decide)]
  have y18 : Y 82 18 = 0 := by rw [← hY, zx_up_same, zu_ne (by decide), zx_up_same, zu_ne (by decide), zx_up_same, zu_ne (by decide), zx_up_same, zu_ne (by decide), zx_up_same, zu_eq]
  have y46 : Y 82 46 = 0 := by rw [← hY, zx_up_same, zu_ne (by decide), zx_up_same, zu_ne (by decide), zx_up_same, zu_ne (by decide), zx_up_same, zu_eq]
  have y37 : Y 82 37 = -1 := by rw [← hY, zx_up_same, zu_eq]
  have y90 : Y 90 = zu (r7 90) (r1 82 17).toNatClampNeg 0 := by rw [← hY, zu_other (by decide), zu_other (by decide), zu_other (by decide), zu_other (by decide), zu_other (by decide), zx_up_same]
  have s7 : r7 90 = r6 90 := (j7.fr 90 (by decide) (by decide) (by decide)).trans (xq 90 (by decide))
  have y39 : Y 82 39 = r1 82 17 := (y82 39 (by decide) (by decide) (by decide) (by decide) (by decide)).trans e39
  have y17 : Y 82 17 = r1 82 17 + 1 := (y82 17 (by decide) (by decide) (by decide) (by decide) (by decide)).trans e17
  have mo7 : r1 82 5 ≤ r7 82 5 := by
    have a := j6.mo
    have b := j7.mo
    rw [x82 5 (by decide) (by decide)] at b
    exact Int32.le_trans a b
  have l7 : r7 82 19 = r6 82 19 := (j7.ff 19 (by omega)).trans (x82 19 (by decide) (by decide))
  have g25 : r7 82 25 = r6 82 25 := (j7.ff 25 (by omega)).trans (x82 25 (by decide) (by decide))
  have jY : JB σ0 Y := by
    obtain ⟨t1, t2, t3, t4, t5, t6, t7, t8⟩ := j7.tk
    have g := fun i (a : i ≠ 18) (b : i ≠ 37) (c : i ≠ 40) (d : i ≠ 41) (e : i ≠ 46) => y82 i a b c d e
    refine ⟨fun q hq => (yq q (by omega) (by omega)).trans ((j7.fr q (by omega) (by omega) (by omega)).trans ((xq q (by omega)).trans (b6.fr q hq))), fun i hi => (g i (by omega) (by omega) (by omega) (by omega) (by omega)).trans ((j7.ff i (by omega)).trans ((x82 i (by omega) (by omega)).trans (b6.ff i hi))), ⟨by rw [g 4 (by decide) (by decide) (by decide) (by decide) (by decide)]; exact t1, by rw [g 5 (by decide) (by decide) (by decide) (by decide) (by decide)]; exact t2, by rw [g 6 (by decide) (by decide) (by decide) (by decide) (by decide)]; exact t3, by rw [g 5 (by decide) (by decide) (by decide) (by decide) (by decide), g 6 (by decide) (by decide) (by decide) (by decide) (by decide)]; exact t4, by rw [g 7 (by decide) (by decide) (by decide) (by decide) (by decide), g 6 (by decide) (by decide) (by decide) (by decide) (by decide)]; exact t5, by rw [g 7 (by decide) (by decide) (by decide) (by decide) (by decide), g 6 (by decide) (by decide) (by decide) (by decide) (by decide)]; exact t6, by rw [g 7 (by decide) (by decide) (by decide) (by decide) (by decide), g 8 (by decide) (by decide) (by decide) (by decide) (by decide)]; exact t7, by rw [yq 86 (by decide) (by decide)]; exact t8⟩, by rw [g 5 (by decide) (by decide) (by decide) (by decide) (by decide)]; exact Int32.le_trans b1.mo mo7, ?_, by rw [y18]; decide, by rw [g 15 (by decide) (by decide) (by decide) (by decide) (by decide)]; exact j7.nf, by rw [g 16 (by decide) (by decide) (by decide) (by decide) (by decide)]; exact j7.nl, by rw [y17]; exact n3.2.2, by rw [g 19 (by decide) (by decide) (by decide) (by decide) (by decide)]; exact j7.lt, ?_, by rw [y39]; exact n3.1, by rw [y46]; decide, by rw [g 25 (by decide) (by decide) (by decide) (by decide) (by decide), g25]; exact b6.ns⟩
    · intro q
      have := h.fa q
      exact absurd c9 this
    · intro t
      rw [y90]
      by_cases q : t = (r1 82 17).toNatClampNeg
      · rw [q, zu_eq]; decide
      · rw [zu_ne q, s7]; exact b6.st t
  have e6t : r6 82 17 = r1 82 17 := by rw [e6]
  have hY0 : tS Y = 0 := by unfold tS; rw [y39, y90, zu_eq]; rfl
  have hD0 : tD Y = 0 := by unfold tD; rw [y46]; rfl
  have jp : JP σ0 Y none none := by
    refine ⟨jY, fun _ => ⟨?_, fun _ => 0, [], fun _ => [], ?_⟩⟩
    · obtain ⟨a, b, c, d⟩ := p6
      rw [e6t] at a b c d
      refine ⟨by rw [y17, y39], ?_, ?_, ?_, ?_, ?_⟩
      · intro t s h1 h2 _
        rw [y39] at h1
        have tn : t ≠ (r1 82 17).toNatClampNeg := fun q => by rw [q, y90, zu_eq] at h2; exact absurd h2 (Nat.not_lt_zero _)
        rw [y90, zu_ne tn, s7] at h2
        refine (a t s (by omega) h2).of (fun q hq => by rw [yq q (by omega) (by omega), j7.fr q (by omega) (by omega) (by omega), xq q (by omega)]) ⟨?_, b6.lt.1, Int32.le_trans jY.lt.2 (by decide)⟩
        rw [y82 19 (by decide) (by decide) (by decide) (by decide) (by decide), l7]; exact Int32.le_refl _
      · intro t s h1 h2
        rw [y39] at h1
        have tn : t ≠ (r1 82 17).toNatClampNeg := by omega
        have f : ∀ q, q ≠ 82 → q ≠ 85 → q ≠ 86 → q ≠ 90 → Y q = r6 q := fun q x y z w => (yq q x w).trans ((j7.fr q x y z).trans (xq q x))
        rw [y90, zu_ne tn, s7] at h2 ⊢
        rw [f 92 (by decide) (by decide) (by decide) (by decide), f 94 (by decide) (by decide) (by decide) (by decide), f 95 (by decide) (by decide) (by decide) (by decide)]
        exact b t s h1 h2
      · rw [hY0, y82 19 (by decide) (by decide) (by decide) (by decide) (by decide), l7]
        have t1 := z_nat n3.1.1
        have : (tb Y : Int) = 24 * (r1 82 17).toInt := by unfold tb; rw [y39]; omega
        simp only [if_true]
        omega
      · rw [y82 25 (by decide) (by decide) (by decide) (by decide) (by decide), g25, y17, yq 91 (by decide) (by decide), j7.fr 91 (by decide) (by decide) (by decide), xq 91 (by decide)]
        intro v v0 v1
        have := d v v0 v1
        refine ⟨this.1, Int32.lt_trans this.2 ?_⟩
        clear hQ h hp j1 f1 pr1 b1 bad a b c d jY jX j6 j7 f7 this
        generalize r1 82 17 = V at *
        grind
      · intro d' hd; rw [hD0] at hd; exact absurd hd (Nat.not_lt_zero _)
    · unfold WFG
      rw [hY0, hD0, y37]
      exact ⟨rfl, fun k hk => (List.not_mem_nil hk).elim, fun d hd => absurd hd (Nat.not_lt_zero _), fun d k hd => absurd hd (Nat.not_lt_zero _), fun _ _ => rfl, fun d hd => absurd hd (Nat.not_lt_zero _), fun d d' hd => absurd hd (Nat.not_lt_zero _), fun s hs => (by cases hs), fun s hs => absurd hs (Nat.not_lt_zero _), fun s hs => absurd hs (Nat.not_lt_zero _)⟩
  have prY : σ 82 5 < Y 82 5 := by
    rw [y82 5 (by decide) (by decide) (by decide) (by decide) (by decide)]
    exact Int32.lt_of_lt_of_le pr mo7
  refine zq_bind (q_f_M_openBlock hN jp.base (fun _ q => absurd q (by decide)) (by decide) (fun _ _ => rfl) (fun _ q => absurd q (by decide)) fun r9 j9 _ => ?_)
  refine q_readThread_118 hN (σ0 := Y) (fun r jr pr' => hQ r (jY.trans jr) (fun w => ⟨pr' w, Int32.lt_of_lt_of_le prY jr.mo⟩)) N r9 j9 (Or.inr ?_)
  have a := z_lo (r9 82 5)
  have : zBig ≤ N := hN
  unfold zmu
  unfold zBig at this
  omega
/-! THE TEXT IS READ -/
theorem q_f_M_readTold {N : Nat} (hN : zBig ≤ N) {σ0 σ : zS} {x1 x2 x3 : Int32} {Q : zS → Prop} (h : JQ σ0 σ) (b : 0 ≤ x1 + x2 ∧ x1 + x2 ≤ 112) (hQ : ∀ r, JQ σ0 r → (r 82 9 = 0 → ¬ x2 = x3) → Q r) : zq (zf_M_readTold N σ x1 x2 x3) Q := by
  unfold zf_M_readTold
  refine zq_ite (fun c2 => ?_) fun _ => zq_bind (q_f_M_cannot fun r a k => hQ r (FF.jq h a k) (fun q => absurd q k))
  refine zq_bind (q_f_M_isTold hN h c2 fun r2 => ?_)
  refine zq_ite (fun _ => ?_) fun _ => zq_bind (q_f_M_fail fun r a k => hQ r (FF.jq h a k) (fun q => absurd q k))
  refine zq_ite (fun c => ?_) fun _ => zq_bind (q_f_M_fail fun r a k => hQ r (FF.jq h a k) (fun q => absurd q k))
  refine zq_bind (q_f_M_call hN h c2 b fun r5 j5 _ => zq_bind (q_f_M_next hN j5 fun r6 j6 _ _ => hQ r6 j6 (fun _ => c)))
theorem JB.up15 {σ0 σ : zS} {i : Nat} {v : Int32} (h : JB σ0 σ) (hi : (i = 15 ∧ 0 ≤ v ∧ v ≤ 6) ∨ (i = 16 ∧ 0 ≤ v ∧ v ≤ 4)) : JB σ0 (zx_up σ 82 i v) := by
  have z : ∀ j, j ≠ i → (zx_up σ 82 i v) 82 j = σ 82 j := fun j hj => by rw [zx_up_same, zu_ne hj]
  have zq' : ∀ q, q ≠ 82 → (zx_up σ 82 i v) q = σ q := fun q hq => zu_other hq
  obtain ⟨t1, t2, t3, t4, t5, t6, t7, t8⟩ := h.tk
  have g : ∀ j, j ≠ 15 → j ≠ 16 → (zx_up σ 82 i v) 82 j = σ 82 j := fun j a b => z j (by omega)
  refine ⟨fun q hq => (zq' q (by omega)).trans (h.fr q hq), fun j hj => (g j (by omega) (by omega)).trans (h.ff j hj), ⟨by rw [g 4 (by decide) (by decide)]; exact t1, by rw [g 5 (by decide) (by decide)]; exact t2, by rw [g 6 (by decide) (by decide)]; exact t3, by rw [g 5 (by decide) (by decide), g 6 (by decide) (by decide)]; exact t4, by rw [g 7 (by decide) (by decide), g 6 (by decide) (by decide)]; exact t5, by rw [g 7 (by decide) (by decide), g 6 (by decide) (by decide)]; exact t6, by rw [g 7 (by decide) (by decide), g 8 (by decide) (by decide)]; exact t7, by rw [zq' 86 (by decide)]; exact t8⟩, by rw [g 5 (by decide) (by decide)]; exact h.mo, by rw [g 9 (by decide) (by decide)]; exact h.fa, by rw [g 18 (by decide) (by decide)]; exact h.lc, ?_, ?_, by rw [g 17 (by decide) (by decide)]; exact h.nt, by rw [g 19 (by decide) (by decide)]; exact h.lt, by rw [zq' 90 (by decide)]; exact h.st, by rw [g 39 (by decide) (by decide)]; exact h.th, by rw [g 46 (by decide) (by decide)]; exact h.dp, by rw [g 25 (by decide) (by decide)]; exact h.ns⟩
  · rcases hi with ⟨e, w⟩ | ⟨e, w⟩
    · rw [e, zx_up_same, zu_eq]; exact w
    · rw [z 15 (by omega)]; exact h.nf
  · rcases hi with ⟨e, w⟩ | ⟨e, w⟩
    · rw [z 16 (by omega)]; exact h.nl
    · rw [e, zx_up_same, zu_eq]; exact w
/-- between two tellings -/
def JH (σ0 σ ρ : zS) : Prop :=
  (JB σ0 ρ) ∧
  (ρ 82 9 = 0 → PB ρ ∧ σ 82 5 < ρ 82 5)
theorem JH.b {σ0 σ ρ : zS} (h : JH σ0 σ ρ) : JB σ0 ρ := h.1
theorem JH.p {σ0 σ ρ : zS} (h : JH σ0 σ ρ) : ρ 82 9 = 0 → PB ρ ∧ σ 82 5 < ρ 82 5 := h.2
theorem JH.jq {σ0 σ ρ r : zS} (h : JH σ0 σ ρ) (j : JQ ρ r) : JH σ0 σ r := by
  refine ⟨h.b.to j, fun w => ?_⟩
  have q : ρ 82 9 = 0 := Decidable.not_not.mp (fun u => j.fa u w)
  exact ⟨(h.p q).1.jq h.b.lt j, Int32.lt_of_lt_of_le (h.p q).2 j.mo⟩
theorem JH.up15 {σ0 σ ρ : zS} {i : Nat} {v : Int32} (h : JH σ0 σ ρ) (hi : (i = 15 ∧ 0 ≤ v ∧ v ≤ 6) ∨ (i = 16 ∧ 0 ≤ v ∧ v ≤ 4)) : JH σ0 σ (zx_up ρ 82 i v) := by
  have g : ∀ j, j ≠ 15 → j ≠ 16 → (zx_up ρ 82 i v) 82 j = ρ 82 j := fun j a b => by rw [zx_up_same, zu_ne (by omega)]
  refine ⟨h.b.up15 hi, fun w => ?_⟩
  rw [g 9 (by decide) (by decide)] at w
  exact ⟨(h.p w).1.of h.b.lt (fun q hq => zu_other (by omega)) (fun j hj => g j (by omega) (by omega)), by rw [g 5 (by decide) (by decide)]; exact (h.p w).2⟩
theorem JH.up88 {σ0 σ ρ : zS} {q i : Nat} {v : Int32} (h : JH σ0 σ ρ) (hq : q = 88 ∨ q = 89) : JH σ0 σ (zx_up ρ q i v) := by
  have e : (zx_up ρ q i v) 82 = ρ 82 := zu_other (by omega)
  refine ⟨h.b.of (fun p hp => zu_other (by omega)) (fun j _ _ _ => by rw [e]) (zu_other (by omega)), fun w => ?_⟩
  rw [e] at w ⊢
  exact ⟨(h.p w).1.of h.b.lt (fun p hp => zu_other (by omega)) (fun j hj => by rw [e]), (h.p w).2⟩
theorem q_f_M_readField {N : Nat} (hN : zBig ≤ N) {σ0 σ : zS} {x1 : Int32} {Q : zS → Prop} (h : JB σ0 σ) (hp : PB σ) (c9 : σ 82 9 = 0) (h7 : ¬ σ 82 7 = 0) (hQ : ∀ r, JH σ0 σ r → Q r) : zq (zf_M_readField N σ x1) Q := by
  unfold zf_M_readField
  refine zq_bind (q_f_M_next hN h.q fun r1 j1 f1 pr1 => ?_)
  have m1 : JH σ0 σ r1 := ⟨h.to j1, fun _ => ⟨hp.jq h.lt j1, pr1 h7⟩⟩
  have nf := m1.b.nf
  refine zq_bind (q_f_M_readTold hN m1.b.q (by rw [Int32.zero_add]; exact ⟨nf.1, Int32.le_trans nf.2 (by decide)⟩) fun r2 j2 n2 => ?_)
  have m2 := m1.jq j2
  refine zq_ite (fun q9 => ?_) fun q9 => hQ _ m2
  have e15 : r2 82 15 = r1 82 15 := j2.ff 15 (by omega)
  have b6 : (0 ≤ r2 82 15 ∧ r2 82 15 < 6) ∧ (0 ≤ r2 82 15 + 1 ∧ r2 82 15 + 1 ≤ 6) := by
    have a := n2 q9
    have b := nf.1; have c := nf.2
    rw [e15]
    clear hQ h hp m1 m2 j1 j2 f1 pr1 n2 e15
    generalize r1 82 15 = V at *
    grind
  refine zq_chk b6.1 fun _ => zq_chk b6.1 fun _ => ?_
  have mY : JH σ0 σ (zx_up (zx_up r2 88 (r2 82 15).toNatClampNeg (x1 &&& 1)) 89 (r2 82 15).toNatClampNeg 0) := (m2.up88 (Or.inl rfl)).up88 (Or.inr rfl)
  have y82 : (zx_up (zx_up r2 88 (r2 82 15).toNatClampNeg (x1 &&& 1)) 89 (r2 82 15).toNatClampNeg 0) 82 = r2 82 := by rw [zu_other (by decide), zu_other (by decide)]
  generalize zx_up (zx_up r2 88 (r2 82 15).toNatClampNeg (x1 &&& 1)) 89 (r2 82 15).toNatClampNeg 0 = Y at *
  have e86 : ∀ ρ, JH σ0 σ ρ → ρ 82 15 = r2 82 15 → zq (zb_M_readField_86 N ρ) Q := by
    intro ρ mρ eρ
    unfold zb_M_readField_86
    rw [eρ]
    have mz := mρ.up15 (v := r2 82 15 + 1) (Or.inl ⟨rfl, b6.2⟩)
    exact zq_bind (q_f_M_take hN mz.b.q fun r j => hQ _ (mz.jq j))
  refine zq_bind (q_f_M_isSign fun r6 _ => ?_)
  refine zq_ite (fun _ => e86 Y mY (by rw [y82])) fun _ => ?_
  refine zq_bind (q_f_M_next hN mY.b.q fun r9 j9 _ _ => ?_)
  have m9 := mY.jq j9
  have e9 : r9 82 15 = r2 82 15 := (j9.ff 15 (by omega)).trans (by rw [y82])
  rw [e9]
  refine zq_chk b6.1 fun _ => ?_
  have mz : JH σ0 σ (zx_up r9 89 (r2 82 15).toNatClampNeg (r9 82 8)) := m9.up88 (Or.inr rfl)
  refine zq_ite (fun _ => ?_) fun _ => ?_
  · refine zq_bind (q_f_M_next hN mz.b.q fun r12 j12 _ _ => ?_)
    exact e86 r12 (mz.jq j12) ((j12.ff 15 (by omega)).trans (by rw [zu_other (by decide)]; exact e9))
  · exact zq_bind (q_f_M_cannot fun r a b => hQ _ (mz.jq (FF.jq mz.b.q a b)))
/-- threads that are meant, as far as they are found -/
def CL (l L : Int) (x : Int) : Prop := 0 ≤ x ∧ (x < 4 ∨ (4 + l ≤ x ∧ x < 4 + L))
def LL (σ ρ : zS) : Prop :=
  (∀ q, q ≠ 93 → ρ q = σ q) ∧
  (∀ k, ¬ (σ 92 k = 10 ∨ σ 92 k = 11) → ρ 93 k = σ 93 k)
theorem LL.fr {σ ρ : zS} (h : LL σ ρ) : ∀ q, q ≠ 93 → ρ q = σ q := h.1
theorem LL.ok {σ ρ : zS} (h : LL σ ρ) : ∀ k, ¬ (σ 92 k = 10 ∨ σ 92 k = 11) → ρ 93 k = σ 93 k := h.2
theorem q_later {N : Nat} (hN : zBig ≤ N) {σ : zS} {v1 v2 : Int32} {k2 : zS → Int32 → Option zS} {Q : zS → Prop} (nt : 0 ≤ σ 82 17 ∧ σ 82 17 ≤ 4) (st : ∀ t, 0 ≤ σ 90 t ∧ σ 90 t ≤ 24) (h1 : 0 ≤ v1 ∧ v1 < 96) (hv : 0 ≤ v2 → v2 < 4) (hk : ∀ ρ, LL σ ρ → (0 ≤ v2 → (∀ t s : Nat, t < (σ 82 17).toNatClampNeg → s < (σ 90 t).toNatClampNeg → (σ 92 (24 * t + s) = 10 ∨ σ 92 (24 * t + s) = 11) → CL v1.toInt (σ 82 19).toInt (σ 93 (24 * t + s)).toInt) → ∀ t s : Nat, t < (σ 82 17).toNatClampNeg → s < (σ 90 t).toNatClampNeg → (σ 92 (24 * t + s) = 10 ∨ σ 92 (24 * t + s) = 11) → CL (v1.toInt + 1) (σ 82 19).toInt (ρ 93 (24 * t + s)).toInt) → zq (k2 ρ (v1 + 1)) Q) : zq (zb_M_findLaters_167 k2 N σ v1 v2) Q := by
  have e4 : (4 + v1).toInt = 4 + v1.toInt := z_4l (n := 0) ⟨h1.1, Int32.le_of_lt h1.2⟩
  let BS : Prop := ∀ t s : Nat, t < (σ 82 17).toNatClampNeg → s < (σ 90 t).toNatClampNeg → (σ 92 (24 * t + s) = 10 ∨ σ 92 (24 * t + s) = 11) → CL v1.toInt (σ 82 19).toInt (σ 93 (24 * t + s)).toInt
  -- what holds of the steps before (t, s), and of all
  let IV : zS → Nat → Nat → Prop := fun ρ t s => LL σ ρ ∧ (0 ≤ v2 → BS → ∀ t' s' : Nat, t' < (σ 82 17).toNatClampNeg → s' < (σ 90 t').toNatClampNeg → (σ 92 (24 * t' + s') = 10 ∨ σ 92 (24 * t' + s') = 11) → ((t' < t ∨ (t' = t ∧ s' < s)) → CL (v1.toInt + 1) (σ 82 19).toInt (ρ 93 (24 * t' + s')).toInt) ∧ CL v1.toInt (σ 82 19).toInt (ρ 93 (24 * t' + s')).toInt)
  have s24 := fun t => z_t24 t st
  have H180 : ∀ (k169 : zS → Int32 → Int32 → Int32 → Option zS) (v3 : Int32), 0 ≤ v3 ∧ v3 < σ 82 17 → (∀ ρ, IV ρ (v3.toNatClampNeg + 1) 0 → zq (k169 ρ v1 v2 (v3 + 1)) Q) → ∀ (n : Nat) (ρ : zS) (v4 : Int32), IV ρ v3.toNatClampNeg v4.toNatClampNeg → 0 ≤ v4 → zmu v4 < n → zq (zb_M_findLaters_180 k169 N n ρ v1 v2 v3 v4) Q := by
    intro k169 v3 h3 hk169 n
    have t4 : 0 ≤ v3 ∧ v3 < 4 := ⟨h3.1, Int32.lt_of_lt_of_le h3.2 nt.2⟩
    induction n with
    | zero => intro _ _ _ _ hn; exact absurd hn (Nat.not_lt_zero _)
    | succ n ih =>
      intro ρ v4 iv h4 hn
      have e90 : ρ 90 = σ 90 := iv.1.fr 90 (by decide)
      have e92 : ρ 92 = σ 92 := iv.1.fr 92 (by decide)
      rw [zb_M_findLaters_180, e90, e92]
      refine zq_chk t4 fun _ => ?_
      refine zq_ite (fun c1 => ?_) fun c1 => ?_
      · refine hk169 ρ ⟨iv.1, fun a b t' s' x y z => ?_⟩
        have w := iv.2 a b t' s' x y z
        have sl : (σ 90 v3.toNatClampNeg).toNatClampNeg ≤ v4.toNatClampNeg := by
          have a1 := z_nat (st v3.toNatClampNeg).1
          have a2 := z_nat h4
          have a3 := Int32.le_iff_toInt_le.mp c1
          omega
        refine ⟨fun q => w.1 ?_, w.2⟩
        by_cases e : t' = v3.toNatClampNeg
        · rw [e] at y; right; exact ⟨e, by omega⟩
        · left; omega
      · have c1' := Int32.not_le.mp c1
        have b4 : 0 ≤ v4 ∧ v4 < 24 := ⟨h4, Int32.lt_of_lt_of_le c1' (st _).2⟩
        obtain ⟨ib, ik⟩ := z_idx t4 b4
        have nx : (v4 + 1).toNatClampNeg = v4.toNatClampNeg + 1 := z_succn h4 c1'
        have n24 : v4.toNatClampNeg < 24 := z_natlt (b := 24) b4.1 b4.2
        refine zq_chk ib fun _ => ?_
        rw [ik]
        -- the step is no 'start' or 'join', or it means another one
        have skip : (¬ (σ 92 (24 * v3.toNatClampNeg + v4.toNatClampNeg) = 10 ∨ σ 92 (24 * v3.toNatClampNeg + v4.toNatClampNeg) = 11) ∨ ¬ ρ 93 (24 * v3.toNatClampNeg + v4.toNatClampNeg) = 4 + v1) → zq (zb_M_findLaters_245 (zb_M_findLaters_180 k169 N n) N ρ v1 v2 v3 v4) Q := by
          intro hs
          unfold zb_M_findLaters_245
          refine ih ρ (v4 + 1) ⟨iv.1, fun a b t' s' x y z => ?_⟩ (by (first | with_reducible assumption | omega | grind)) (zmu_up c1 hn)
          have w := iv.2 a b t' s' x y z
          refine ⟨fun q => ?_, w.2⟩
          rw [nx] at q
          by_cases e : t' = v3.toNatClampNeg ∧ s' = v4.toNatClampNeg
          · rw [e.1, e.2] at z w ⊢
            rcases hs with hs | hs
            · exact absurd z hs
            · have w2 := w.2
              have ne : (ρ 93 (24 * v3.toNatClampNeg + v4.toNatClampNeg)).toInt ≠ 4 + v1.toInt := fun q => hs (Int32.toInt_inj.mp (by rw [q, e4]))
              unfold CL at w2 ⊢
              omega
          · refine w.1 ?_
            omega
        have doit : (σ 92 (24 * v3.toNatClampNeg + v4.toNatClampNeg) = 10 ∨ σ 92 (24 * v3.toNatClampNeg + v4.toNatClampNeg) = 11) → zq (zb_M_findLaters_224 (zb_M_findLaters_180 k169 N n) N ρ v1 v2 v3 v4 (24 * v3 + v4)) Q := by
          intro hk10
          unfold zb_M_findLaters_224
          refine zq_chk ib fun _ => ?_
          rw [ik]
          refine zq_ite (fun c => skip (Or.inr c)) fun c => ?_
          refine zq_chk ib fun _ => ?_
          unfold zb_M_findLaters_245
          have z93 : (zx_up ρ 93 (24 * v3.toNatClampNeg + v4.toNatClampNeg) v2) 93 = zu (ρ 93) (24 * v3.toNatClampNeg + v4.toNatClampNeg) v2 := zx_up_same
          refine ih _ (v4 + 1) ⟨⟨fun q hq => by rw [zu_other hq]; exact iv.1.fr q hq, fun k hk' => ?_⟩, fun a b t' s' x y z => ?_⟩ (by (first | with_reducible assumption | omega | grind)) (zmu_up c1 hn)
          · rw [z93]
            by_cases e : k = 24 * v3.toNatClampNeg + v4.toNatClampNeg
            · rw [e] at hk'; exact absurd hk10 hk'
            · rw [zu_ne e]; exact iv.1.ok k hk'
          · have w := iv.2 a b t' s' x y z
            have s1 := s24 t'
            rw [nx, z93]
            by_cases e : t' = v3.toNatClampNeg ∧ s' = v4.toNatClampNeg
            · rw [e.1, e.2, zu_eq]
              have v0 : 0 ≤ v2.toInt := Int32.le_iff_toInt_le.mp a
              have v4' : v2.toInt < 4 := Int32.lt_iff_toInt_lt.mp (hv a)
              exact ⟨fun _ => ⟨v0, Or.inl v4'⟩, ⟨v0, Or.inl v4'⟩⟩
            · have ne : 24 * t' + s' ≠ 24 * v3.toNatClampNeg + v4.toNatClampNeg := by omega
              rw [zu_ne ne]
              exact ⟨fun q => w.1 (by omega), w.2⟩
        refine zq_ite (fun c10 => doit (Or.inl c10)) fun c10 => ?_
        refine zq_chk ib fun _ => ?_
        refine zq_ite (fun c11 => skip (Or.inl (fun q => q.elim c10 c11))) fun c11 => doit (Or.inr (Decidable.not_not.mp c11))
  have H169 : ∀ (n : Nat) (ρ : zS) (v3 : Int32), IV ρ v3.toNatClampNeg 0 → 0 ≤ v3 → zmu v3 < n → zq (zb_M_findLaters_169 k2 N n ρ v1 v2 v3) Q := by
    intro n
    induction n with
    | zero => intro _ _ _ _ hn; exact absurd hn (Nat.not_lt_zero _)
    | succ n ih =>
      intro ρ v3 iv h3 hn
      have e82 : ρ 82 = σ 82 := iv.1.fr 82 (by decide)
      rw [zb_M_findLaters_169, e82]
      refine zq_ite (fun c1 => ?_) fun c1 => ?_
      · refine hk ρ iv.1 (fun a b t s x y z => ?_)
        refine (iv.2 a b t s x y z).1 (Or.inl ?_)
        have a1 := z_nat nt.1
        have a2 := z_nat h3
        have a3 := Int32.le_iff_toInt_le.mp c1
        omega
      · have c1' := Int32.not_le.mp c1
        have nx : (v3 + 1).toNatClampNeg = v3.toNatClampNeg + 1 := z_succn h3 c1'
        refine H180 _ v3 ⟨h3, c1'⟩ (fun ρ' iv' => ih ρ' (v3 + 1) (by rw [nx]; exact iv') (by (first | with_reducible assumption | omega | grind)) (zmu_up c1 hn)) N ρ 0 iv (by decide) (zmu_lt hN _)
  unfold zb_M_findLaters_167
  exact H169 N σ 0 ⟨⟨fun _ _ => rfl, fun _ _ => rfl⟩, fun a b t s x y z => ⟨fun q => by
    have e0 : (0 : Int32).toNatClampNeg = 0 := rfl
    rw [e0] at q
    omega, b t s x y z⟩⟩ (by decide) (zmu_lt hN _)
theorem z_fl {a b c : Int32} (ha : 0 ≤ a ∧ a < 4) (hb : 0 ≤ b ∧ b < 96) (hc : 0 ≤ c ∧ c < 6) : (0 ≤ 10 + a ∧ 10 + a < 200) ∧ (0 ≤ 17 + b ∧ 17 + b < 200) ∧ (0 ≤ 6 * (10 + a) + c ∧ 6 * (10 + a) + c < 1200) ∧ (0 ≤ 6 * (17 + b) + c ∧ 6 * (17 + b) + c < 1200) := by
  have x := z_fi (a := 10) (b := a) (c := c) (by decide) ⟨ha.1, Int32.lt_trans ha.2 (by decide)⟩ hc
  have y := z_fi (a := 17) (b := b) (c := c) (by decide) hb hc
  exact ⟨x.1, y.1, x.2, y.2⟩
/-- all threads that are meant are found, or one is not -/
theorem q_f_M_findLaters {N : Nat} (hN : zBig ≤ N) {σ0 σ : zS} {Q : zS → Prop} (h : JB σ0 σ) (hp : PB σ) (c9 : σ 82 9 = 0) (hQ : ∀ r, JB σ0 r → (r 82 9 = 0 → (∀ q, q ≠ 93 → r q = σ q) ∧ (∀ k, ¬ (σ 92 k = 10 ∨ σ 92 k = 11) → r 93 k = σ 93 k) ∧ ∀ t s : Nat, t < (σ 82 17).toNatClampNeg → s < (σ 90 t).toNatClampNeg → (σ 92 (24 * t + s) = 10 ∨ σ 92 (24 * t + s) = 11) → 0 ≤ (r 93 (24 * t + s)).toInt ∧ (r 93 (24 * t + s)).toInt < 4) → Q r) : zq (zf_M_findLaters N σ) Q := by
  have lt := h.lt
  have l96 : (σ 82 19).toInt ≤ 96 := Int32.le_iff_toInt_le.mp lt.2
  -- a state on the way
  let OK : zS → Int32 → Prop := fun ρ v => LL σ ρ ∧ ∀ t s : Nat, t < (σ 82 17).toNatClampNeg → s < (σ 90 t).toNatClampNeg → (σ 92 (24 * t + s) = 10 ∨ σ 92 (24 * t + s) = 11) → CL v.toInt (σ 82 19).toInt (ρ 93 (24 * t + s)).toInt
  have jb : ∀ ρ, LL σ ρ → JB σ0 ρ := fun ρ l => h.of (fun q hq => l.fr q (by omega)) (fun i _ _ _ => by rw [l.fr 82 (by decide)]) (l.fr 90 (by decide))
  have bad : ∀ (ρ u : zS) (x y : Int32), LL σ ρ → LL (zx_up (zx_up (zx_up ρ 82 9 1) 82 10 x) 82 11 y) u → JB σ0 u ∧ ¬ u 82 9 = 0 := by
    intro ρ u x y l lu
    have b := jb ρ l
    have ff : FF ρ (zx_up (zx_up (zx_up ρ 82 9 1) 82 10 x) 82 11 y) := ⟨fun q a => by rw [zu_other a, zu_other a, zu_other a], fun i a b c => by rw [zx_up_same, zu_ne c, zx_up_same, zu_ne b, zx_up_same, zu_ne a]⟩
    have n9 : ¬ (zx_up (zx_up (zx_up ρ 82 9 1) 82 10 x) 82 11 y) 82 9 = 0 := by
      rw [zx_up_same, zu_ne (by decide), zx_up_same, zu_ne (by decide), zx_up_same, zu_eq]; decide
    have b2 := b.to (FF.jq b.q ff n9)
    refine ⟨b2.of (fun q hq => lu.fr q (by omega)) (fun i _ _ _ => by rw [lu.fr 82 (by decide)]) (lu.fr 90 (by decide)), ?_⟩
    rw [lu.fr 82 (by decide)]; exact n9
  have H2 : ∀ (n : Nat) (ρ : zS) (v1 : Int32), (OK ρ v1 ∨ (JB σ0 ρ ∧ ¬ ρ 82 9 = 0)) → 0 ≤ v1 → zmu v1 < n → zq (zb_M_findLaters_2 N n ρ v1) Q := by
    intro n
    induction n with
    | zero => intro _ _ _ _ hn; exact absurd hn (Nat.not_lt_zero _)
    | succ n ih =>
      intro ρ v1 ok h0 hn
      rw [zb_M_findLaters_2]
      rcases ok with ok | ⟨b, n9⟩
      · have e82 : ρ 82 = σ 82 := ok.1.fr 82 (by decide)
        rw [e82]
        refine zq_ite (fun c1 => ?_) fun c1 => ?_
        · refine hQ ρ (jb ρ ok.1) (fun _ => ⟨ok.1.fr, ok.1.ok, fun t s x y z => ?_⟩)
          have w := ok.2 t s x y z
          have c1' := Int32.le_iff_toInt_le.mp c1
          unfold CL at w
          omega
        · refine zq_ite (fun c => absurd c9 c) fun _ => ?_
          have c1' := Int32.not_le.mp c1
          have b1 : 0 ≤ v1 ∧ v1 < 96 := ⟨h0, Int32.lt_of_lt_of_le c1' lt.2⟩
          have sz : 0 ≤ ρ 86 (17 + v1).toNatClampNeg ∧ ρ 86 (17 + v1).toNatClampNeg ≤ 6 := by rw [ok.1.fr 86 (by decide)]; exact h.tk.n6 _
          have e17 : ρ 82 17 = σ 82 17 := by rw [e82]
          have e19 : ρ 82 19 = σ 82 19 := by rw [e82]
          have e90 : ρ 90 = σ 90 := ok.1.fr 90 (by decide)
          have e92 : ρ 92 = σ 92 := ok.1.fr 92 (by decide)
          have H60 : ∀ (k21 : zS → Int32 → Int32 → Int32 → Option zS) (v2 v3 : Int32), 0 ≤ v3 ∧ v3 < 4 → zq (k21 ρ v1 v2 (v3 + 1)) Q → zq (k21 ρ v1 v3 (v3 + 1)) Q → ∀ (m : Nat) (v4 v5 : Int32), 0 ≤ v5 → zmu v5 < m → zq (zb_M_findLaters_60 k21 N m ρ v1 v2 v3 v4 v5) Q := by
            intro k21 v2 v3 h3 a b m
            have out : ∀ v4, zq (zb_M_findLaters_125 k21 N ρ v1 v2 v3 v4) Q := fun v4 => by
              unfold zb_M_findLaters_125
              exact zq_ite (fun _ => a) fun _ => b
            induction m with
            | zero => intro _ _ _ hm; exact absurd hm (Nat.not_lt_zero _)
            | succ m ihm =>
              intro v4 v5 h5 hm
              rw [zb_M_findLaters_60]
              refine zq_chk (z_fl (c := 0) h3 b1 (by decide)).2.1 fun _ => ?_
              refine zq_ite (fun _ => out v4) fun c5 => ?_
              refine zq_ite (fun _ => out v4) fun _ => ?_
              have b5 : 0 ≤ v5 ∧ v5 < 6 := ⟨h5, Int32.lt_of_lt_of_le (Int32.not_le.mp c5) sz.2⟩
              have w := z_fl h3 b1 b5
              refine zq_chk w.2.2.1 fun _ => zq_chk w.2.2.2 fun _ => ?_
              exact zq_ite (fun _ => ihm 0 (v5 + 1) (by (first | with_reducible assumption | omega | grind)) (zmu_up c5 hm)) fun _ => ihm 1 (v5 + 1) (by (first | with_reducible assumption | omega | grind)) (zmu_up c5 hm)
          have H21 : ∀ (m : Nat) (v2 v3 : Int32), (v2 = -1 ∨ (0 ≤ v2 ∧ v2 < 4)) → 0 ≤ v3 → zmu v3 < m → zq (zb_M_findLaters_21 (zb_M_findLaters_2 N n) N m ρ v1 v2 v3) Q := by
            intro m
            induction m with
            | zero => intro _ _ _ _ hm; exact absurd hm (Nat.not_lt_zero _)
            | succ m ihm =>
              intro v2 v3 h2 h3 hm
              rw [zb_M_findLaters_21]
              refine zq_ite (fun c3 => ?_) fun c3 => ?_
              · refine zq_ite (fun cv => ?_) fun cv => ?_
                · have h2 := h2.resolve_left cv
                  refine q_later hN (by rw [e17]; exact h.nt) (by rw [e90]; exact h.st) b1 (fun _ => h2.2) (fun u lu w => ?_)
                  refine ih u (v1 + 1) (Or.inl ⟨⟨fun q hq => (lu.fr q hq).trans (ok.1.fr q hq), fun k hk => (lu.ok k (by rw [e92]; exact hk)).trans (ok.1.ok k hk)⟩, ?_⟩) (by (first | with_reducible assumption | omega | grind)) (zmu_up c1 hn)
                  rw [z_succ c1']
                  have w' := w h2.1
                  rw [e17, e19, e90, e92] at w'
                  exact w' ok.2
                · have bn : 0 ≤ v1 ∧ v1 < 128 := ⟨b1.1, Int32.lt_trans b1.2 (by decide)⟩
                  refine zq_chk bn fun _ => ?_
                  have z : ∀ q, q ≠ 82 → (zx_up (zx_up (zx_up ρ 82 9 1) 82 10 5) 82 11 (ρ 87 v1.toNatClampNeg)) q = ρ q := fun q hq => by rw [zu_other hq, zu_other hq, zu_other hq]
                  have z17 : (zx_up (zx_up (zx_up ρ 82 9 1) 82 10 5) 82 11 (ρ 87 v1.toNatClampNeg)) 82 17 = σ 82 17 := by rw [zx_up_same, zu_ne (by decide), zx_up_same, zu_ne (by decide), zx_up_same, zu_ne (by decide), e17]
                  refine q_later hN (by rw [z17]; exact h.nt) (by rw [z 90 (by decide), e90]; exact h.st) b1 (fun q => ?_) (fun u lu _ => ?_)
                  · have e : v2 = -1 := Decidable.not_not.mp cv
                    rw [e] at q; exact absurd q (by decide)
                  · exact ih u (v1 + 1) (Or.inr (bad ρ u _ _ ok.1 lu)) (by (first | with_reducible assumption | omega | grind)) (zmu_up c1 hn)
              · rw [e17] at c3
                have c3' := Int32.not_le.mp c3
                have b3 : 0 ≤ v3 ∧ v3 < 4 := ⟨h3, Int32.lt_of_lt_of_le c3' h.nt.2⟩
                have w := z_fl (c := 0) b3 b1 (by decide)
                refine zq_chk w.1 fun _ => zq_chk w.2.1 fun _ => ?_
                have a := ihm v2 (v3 + 1) h2 (by (first | with_reducible assumption | omega | grind)) (zmu_up c3 hm)
                have b := ihm v3 (v3 + 1) (Or.inr b3) (by (first | with_reducible assumption | omega | grind)) (zmu_up c3 hm)
                exact zq_ite (fun _ => H60 _ v2 v3 b3 a b N 0 0 (by decide) (zmu_lt hN _)) fun _ => H60 _ v2 v3 b3 a b N 1 0 (by decide) (zmu_lt hN _)
          exact H21 N (-1) 0 (Or.inl rfl) (by decide) (zmu_lt hN _)
      · refine zq_ite (fun _ => hQ ρ b (fun q => absurd q n9)) fun _ => ?_
        refine zq_ite (fun _ => hQ ρ b (fun q => absurd q n9)) fun c => absurd (Decidable.not_not.mp c) n9
  unfold zf_M_findLaters
  refine H2 N σ 0 (Or.inl ⟨⟨fun _ _ => rfl, fun _ _ => rfl⟩, fun t s x y z => ?_⟩) (by decide) (zmu_lt hN _)
  have w := (hp.sc t s x y).w3 z
  have a : 0 ≤ (σ 93 (24 * t + s)).toInt := Int32.le_iff_toInt_le.mp w.1
  have b := Int32.lt_iff_toInt_lt.mp w.2
  rw [z_4l (n := 0) lt] at b
  have e0 : (0 : Int32).toInt = 0 := rfl
  unfold CL
  rw [e0]
  omega
/-! READING, WHOLE -/
def GM (σ : zS) : Prop :=
  (0 ≤ σ 82 2 ∧ σ 82 2 ≤ 1500) ∧
  (¬ σ 82 21 = 0 → PG σ) ∧
  (¬ σ 82 53 = 0 → PG σ ∧ RR σ) ∧
  (¬ σ 82 53 = 0 → ¬ σ 82 21 = 0) ∧
  (-1 ≤ σ 82 62 ∧ σ 82 62 ≤ 4000) ∧
  (∀ t, 0 ≤ σ 90 t ∧ σ 90 t ≤ 24) ∧
  (0 ≤ σ 82 39 ∧ σ 82 39 < 4) ∧
  (0 ≤ σ 82 46 ∧ σ 82 46 ≤ 8) ∧
  (0 ≤ σ 82 18 ∧ σ 82 18 ≤ 3) ∧
  (∀ i, 0 ≤ σ 86 i ∧ σ 86 i ≤ 6)
theorem GM.tp {σ : zS} (h : GM σ) : 0 ≤ σ 82 2 ∧ σ 82 2 ≤ 1500 := h.1
theorem GM.pg {σ : zS} (h : GM σ) : ¬ σ 82 21 = 0 → PG σ := h.2.1
theorem GM.rr {σ : zS} (h : GM σ) : ¬ σ 82 53 = 0 → PG σ ∧ RR σ := h.2.2.1
theorem GM.rp {σ : zS} (h : GM σ) : ¬ σ 82 53 = 0 → ¬ σ 82 21 = 0 := h.2.2.2.1
theorem GM.sc {σ : zS} (h : GM σ) : -1 ≤ σ 82 62 ∧ σ 82 62 ≤ 4000 := h.2.2.2.2.1
theorem GM.st {σ : zS} (h : GM σ) : ∀ t, 0 ≤ σ 90 t ∧ σ 90 t ≤ 24 := h.2.2.2.2.2.1
theorem GM.th {σ : zS} (h : GM σ) : 0 ≤ σ 82 39 ∧ σ 82 39 < 4 := h.2.2.2.2.2.2.1
theorem GM.dp {σ : zS} (h : GM σ) : 0 ≤ σ 82 46 ∧ σ 82 46 ≤ 8 := h.2.2.2.2.2.2.2.1
theorem GM.lc {σ : zS} (h : GM σ) : 0 ≤ σ 82 18 ∧ σ 82 18 ≤ 3 := h.2.2.2.2.2.2.2.2.1
theorem GM.n6 {σ : zS} (h : GM σ) : ∀ i, 0 ≤ σ 86 i ∧ σ 86 i ≤ 6 := h.2.2.2.2.2.2.2.2.2
theorem okv.i {x S : Int32} {n : Nat} (h : okv x n) (e : S.toInt = (n : Int)) : 0 ≤ x ∧ x ≤ S := ⟨Int32.le_iff_toInt_le.mpr h.1, Int32.le_iff_toInt_le.mpr (by rw [e]; exact h.2)⟩
/-- a text that was read well is a program -/
theorem PG.mk' {σ r : zS} (hb : JB σ σ) (hp : PB σ) (f : ∀ q, q ≠ 82 → q ≠ 93 → r q = σ q) (g : ∀ i, i = 15 ∨ i = 16 ∨ i = 17 ∨ i = 25 → r 82 i = σ 82 i) (k : ∀ k, ¬ (σ 92 k = 10 ∨ σ 92 k = 11) → r 93 k = σ 93 k) (l : ∀ t s : Nat, t < (σ 82 17).toNatClampNeg → s < (σ 90 t).toNatClampNeg → (σ 92 (24 * t + s) = 10 ∨ σ 92 (24 * t + s) = 11) → 0 ≤ (r 93 (24 * t + s)).toInt ∧ (r 93 (24 * t + s)).toInt < 4) : PG r := by
  have e90 := f 90 (by decide) (by decide)
  refine ⟨by rw [g 15 (by simp)]; exact hb.nf, by rw [g 16 (by simp)]; exact hb.nl, by rw [g 17 (by simp)]; exact hb.nt, by rw [g 25 (by simp)]; exact hb.ns, by rw [e90]; exact hb.st, ?_, by rw [g 25 (by simp), g 17 (by simp), f 91 (by decide) (by decide)]; exact hp.sp⟩
  rw [g 17 (by simp), e90]
  intro t s t0 t1 s0 s1
  have st := hb.st t.toNatClampNeg
  have t4 : 0 ≤ t ∧ t < 4 := ⟨t0, Int32.lt_of_lt_of_le t1 hb.nt.2⟩
  have s24 : 0 ≤ s ∧ s < 24 := ⟨s0, Int32.lt_of_lt_of_le s1 st.2⟩
  have eS : (σ 90 t.toNatClampNeg).toInt = ((σ 90 t.toNatClampNeg).toNatClampNeg : Int) := (z_nat st.1).symm
  rw [(z_idx t4 s24).2]
  have tn := z_natlt t0 t1
  have sn := z_natlt s0 s1
  have sc := hp.sc t.toNatClampNeg s.toNatClampNeg tn sn
  have lk := hp.lk t.toNatClampNeg s.toNatClampNeg tn sn
  have ll := l t.toNatClampNeg s.toNatClampNeg tn sn
  generalize 24 * t.toNatClampNeg + s.toNatClampNeg = K at *
  have f2 := f 92 (by decide) (by decide); have f4 := f 94 (by decide) (by decide); have f5 := f 95 (by decide) (by decide); have f8 := f 98 (by decide) (by decide); have f9 := f 99 (by decide) (by decide); have f0 := f 100 (by decide) (by decide); have f1 := f 101 (by decide) (by decide)
  have ll' : (σ 92 K = 10 ∨ σ 92 K = 11) → 0 ≤ r 93 K ∧ r 93 K ≤ 3 := fun q => ⟨Int32.le_iff_toInt_le.mpr (ll q).1, Int32.le_iff_toInt_le.mpr (by show _ ≤ (3 : Int); have := (ll q).2; omega)⟩
  obtain ⟨a, b, c, d, e, v, w⟩ := sc
  refine ⟨?_, ?_, ?_, ?_, ?_, ?_, ?_, ?_⟩
  · by_cases q : σ 92 K = 10 ∨ σ 92 K = 11
    · exact ⟨Int32.le_trans (by decide) (ll' q).1, Int32.le_trans (ll' q).2 (by decide)⟩
    · rw [k K q]; exact a q
  · rw [f2]; intro q
    have n : ¬ (σ 92 K = 10 ∨ σ 92 K = 11) := by rcases q with e | e <;> rw [e] <;> decide
    rw [k K n]; exact b q
  · rw [f2]; intro q
    by_cases n : σ 92 K = 10 ∨ σ 92 K = 11
    · exact ll' n
    · rw [k K n]
      refine c ?_
      rcases q with q | q | q | q | q | q | q
      · exact Or.inl q
      · exact Or.inr (Or.inl q)
      · exact Or.inr (Or.inr (Or.inl q))
      · exact Or.inr (Or.inr (Or.inr (Or.inl q)))
      · exact Or.inr (Or.inr (Or.inr (Or.inr q)))
      · exact absurd (Or.inl q) n
      · exact absurd (Or.inr q) n
  · rw [f4]; exact lk.1.i eS
  · rw [f2, f5]; exact fun q => (lk.2 q).i eS
  · rw [f2, f8]; exact e
  · rw [f2, f9]; exact v
  · rw [f2, f1, f0]; exact w
theorem q_f_M_read {N : Nat} (hN : zBig ≤ N) {σ : zS} {Q : Int32 × zS → Prop} (g : GM σ) (hQ : ∀ r, GM r.2 → (∀ q, q < 82 → r.2 q = σ q) → r.2 82 2 = 0 → Q r) : zq (zf_M_read N σ) Q := by
  -- from the first token on
  have body : ∀ (τ : zS), JB τ τ → PB τ → τ 82 9 = 0 → τ 82 2 = 0 → τ 82 53 = 0 → τ 82 62 = -1 → (∀ q, q < 82 → τ q = σ q) → zq (zb_M_read_105 N N τ) Q := by
    intro τ hb hp t9 t2 t53 t62 tq
    have fin : ∀ (ρ : zS) (s0 : Int32), JB τ ρ → (s0 = 0 ∨ s0 = 1) → (ρ 82 9 = 0 → s0 = 1 ∧ PG ρ) → (¬ ρ 82 9 = 0 → s0 = 0) → zq (zb_M_read_268 N ρ s0) Q := by
      intro ρ s0 b hs hp1 hp0
      unfold zb_M_read_268
      refine zq_chk hs fun _ => ?_
      generalize hR : zx_up (zx_up ρ 82 21 s0) 82 12 (ρ 82 10) = R
      have z : ∀ q, q ≠ 82 → R q = ρ q := fun q hq => by rw [← hR, zu_other hq, zu_other hq]
      have z82 : ∀ i, i ≠ 12 → i ≠ 21 → R 82 i = ρ 82 i := fun i x y => by rw [← hR, zx_up_same, zu_ne x, zx_up_same, zu_ne y]
      have z21 : R 82 21 = s0 := by rw [← hR, zx_up_same, zu_ne (by decide), zx_up_same, zu_eq]
      have pgR : PG ρ → PG R := fun p => PG.of2 (fun q a _ => z q a) ⟨z82 _ (by decide) (by decide), z82 _ (by decide) (by decide), z82 _ (by decide) (by decide), z82 _ (by decide) (by decide)⟩ p
      have e53 : R 82 53 = 0 := (z82 53 (by decide) (by decide)).trans ((b.ff 53 (by simp)).trans t53)
      have gm : GM R := by
        refine ⟨by rw [z82 2 (by decide) (by decide), b.ff 2 (by simp), t2]; decide, ?_, fun q => absurd e53 q, fun q => absurd e53 q, by rw [z82 62 (by decide) (by decide), b.ff 62 (by simp), t62]; decide, by rw [z 90 (by decide)]; exact b.st, by rw [z82 39 (by decide) (by decide)]; exact b.th, by rw [z82 46 (by decide) (by decide)]; exact b.dp, by rw [z82 18 (by decide) (by decide)]; exact b.lc, by rw [z 86 (by decide)]; exact b.tk.n6⟩
        rw [z21]
        intro q
        by_cases c : ρ 82 9 = 0
        · exact pgR (hp1 c).2
        · exact absurd (hp0 c) q
      have rq : ∀ q, q < 82 → R q = σ q := fun q hq => (z q (by omega)).trans ((b.fr q hq).trans (tq q hq))
      have r2 : R 82 2 = 0 := (z82 2 (by decide) (by decide)).trans ((b.ff 2 (by simp)).trans t2)
      refine zq_ite (fun c => ?_) fun _ => hQ _ gm rq r2
      exact zq_bind (q_f_M_allSteps hN (σ0 := R) (pgR (hp1 c).2) fun r10 => hQ _ gm rq r2)
    have e255 : ∀ ρ, JB τ ρ → (ρ 82 9 = 0 → PG ρ) → zq (zb_M_read_255 N ρ) Q := by
      intro ρ b p
      unfold zb_M_read_255
      exact zq_ite (fun c => fin ρ 0 b (Or.inl rfl) (fun q => absurd q c) (fun _ => rfl)) fun c => fin ρ 1 b (Or.inr rfl) (fun q => ⟨rfl, p q⟩) (fun q => absurd (Decidable.not_not.mp c) q)
    have e244 : ∀ ρ, JB τ ρ → (ρ 82 9 = 0 → PB ρ) → zq (zb_M_read_244 N ρ) Q := by
      intro ρ b p
      unfold zb_M_read_244
      refine zq_ite (fun c => e255 ρ b (fun q => absurd q c)) fun c => ?_
      have q9 := Decidable.not_not.mp c
      refine zq_bind (q_f_M_findLaters hN b (p q9) q9 fun r jr pr => e255 r jr (fun w => ?_))
      obtain ⟨f, k, l⟩ := pr w
      exact PG.mk' b.refl (p q9) (fun q _ h => f q h) (fun i _ => by rw [f 82 (by decide)]) k l
    have e226 : ∀ ρ, JB τ ρ → (ρ 82 9 = 0 → PB ρ) → zq (zb_M_read_226 N ρ) Q := by
      intro ρ b p
      unfold zb_M_read_226
      refine zq_ite (fun _ => e244 ρ b p) fun _ => zq_ite (fun _ => e244 ρ b p) fun _ => zq_bind (q_f_M_cannot fun r a k => e244 r (b.to (FF.jq b.q a k)) (fun q => absurd q k))
    have H204 : ∀ (n : Nat) (ρ : zS), JB τ ρ → (ρ 82 9 = 0 → PB ρ) → ((¬ ρ 82 9 = 0 ∧ 0 < n) ∨ zmu (ρ 82 5) + 1 < n) → zq (zb_M_read_204 N n ρ) Q := by
      intro n
      induction n with
      | zero => intro ρ _ _ hn; omega
      | succ n ih =>
        intro ρ b p hn
        rw [zb_M_read_204]
        refine zq_ite (fun _ => e226 ρ b p) fun c => ?_
        have q9 := Decidable.not_not.mp c
        have hn : zmu (ρ 82 5) + 1 < n + 1 := hn.elim (fun q => absurd q9 q.1) id
        refine zq_bind (q_f_M_isWord fun r14 p14 => ?_)
        refine zq_ite (fun _ => e226 ρ b p) fun c14 => ?_
        have h7 : ¬ ρ 82 7 = 0 := by rw [(p14.resolve_left c14).1]; decide
        refine zq_bind (q_f_M_readThread hN b (p q9) q9 h7 fun r jr pr => ih r jr (fun w => (pr w).1) ?_)
        by_cases q : r 82 9 = 0
        · right
          have := zmu_mono (n := zmu (ρ 82 5)) (pr q).2 (by omega)
          omega
        · left; exact ⟨q, by omega⟩
    have big : ∀ ρ : zS, zmu (ρ 82 5) + 1 < N := fun ρ => by
      have a := z_lo (ρ 82 5)
      have : zBig ≤ N := hN
      unfold zmu
      unfold zBig at this
      omega
    have H105 : ∀ (n : Nat) (ρ : zS), JB τ ρ → (ρ 82 9 = 0 → PB ρ) → ((¬ ρ 82 9 = 0 ∧ 0 < n) ∨ zmu (ρ 82 5) + 1 < n) → zq (zb_M_read_105 N n ρ) Q := by
      intro n
      induction n with
      | zero => intro ρ _ _ hn; omega
      | succ n ih =>
        intro ρ b p hn
        have o204 : zq (zb_M_read_204 N N ρ) Q := H204 N ρ b p (Or.inr (big ρ))
        rw [zb_M_read_105]
        refine zq_ite (fun _ => o204) fun c => ?_
        have q9 := Decidable.not_not.mp c
        have hn : zmu (ρ 82 5) + 1 < n + 1 := hn.elim (fun q => absurd q9 q.1) id
        have go : ∀ r, JH τ ρ r → zq (zb_M_read_105 N n r) Q := by
          intro r jr
          refine ih r jr.b (fun w => (jr.p w).1) ?_
          by_cases q : r 82 9 = 0
          · right
            have := zmu_mono (n := zmu (ρ 82 5)) (jr.p q).2 (by omega)
            omega
          · left; exact ⟨q, by omega⟩
        have e136 : ¬ ρ 82 7 = 0 → zq (zb_M_read_136 (zb_M_read_105 N n) N ρ) Q := by
          intro h7
          unfold zb_M_read_136
          refine zq_bind (q_f_M_isWord fun r19 _ => ?_)
          refine zq_ite (fun _ => ?_) fun _ => ?_
          · refine zq_bind (q_f_M_isWord fun r21 _ => ?_)
            exact zq_bind (q_f_M_readField hN b (p q9) q9 h7 go)
          · refine zq_bind (q_f_M_next hN b.q fun r23 j23 _ pr23 => ?_)
            have m23 : JH τ ρ r23 := ⟨b.to j23, fun _ => ⟨(p q9).jq b.lt j23, pr23 h7⟩⟩
            have nl := m23.b.nl
            have b10 : 0 ≤ 6 + r23 82 16 ∧ 6 + r23 82 16 ≤ 112 := by
              have := nl.1; have := nl.2
              clear hQ ih go fin e255 e244 e226 H204 m23 j23 pr23 o204 b p big
              generalize r23 82 16 = V at *
              grind
            refine zq_bind (q_f_M_readTold hN m23.b.q b10 fun r24 j24 n24 => ?_)
            have m24 := m23.jq j24
            have e16 : r24 82 16 = r23 82 16 := j24.ff 16 (by omega)
            have e180 : ∀ v : Int32, 0 ≤ v ∧ v ≤ 4 → zq (zb_M_read_180 (zb_M_read_105 N n) N r24 v) Q := by
              intro v hv
              unfold zb_M_read_180
              have mz := m24.up15 (i := 16) (v := v) (Or.inr ⟨rfl, hv⟩)
              exact zq_bind (q_f_M_take hN mz.b.q fun r j => go _ (mz.jq j))
            refine zq_ite (fun w => e180 _ ?_) fun _ => e180 _ m24.b.nl
            have a := n24 w
            rw [e16]
            have b := nl.1; have c := nl.2
            clear hQ ih go fin e255 e244 e226 H204 m23 j23 pr23 o204 p big e180 m24 j24 n24
            generalize r23 82 16 = V at *
            grind
        refine zq_bind (q_f_M_isWord fun r17 p17 => ?_)
        refine zq_ite (fun w => e136 (by rw [(p17.resolve_left w).1]; decide)) fun _ => ?_
        refine zq_bind (q_f_M_isWord fun r27 p27 => ?_)
        refine zq_ite (fun w => e136 (by rw [(p27.resolve_left w).1]; decide)) fun _ => ?_
        refine zq_bind (q_f_M_isWord fun r29 p29 => ?_)
        exact zq_ite (fun _ => o204) fun w => e136 (by rw [(p29.resolve_left w).1]; decide)
    exact H105 N τ hb (fun _ => hp) (Or.inr (big τ))
  have H20 : ∀ (n : Nat) (ρ : zS) (v1 : Int32), (∀ q, q ≠ 82 → q ≠ 84 → ρ q = σ q) → (∀ i, i ≠ 0 → i ≠ 2 → i ≠ 4 → ρ 82 i = σ 82 i) → ρ 82 2 = 0 → ρ 82 4 = σ 82 2 → 0 ≤ v1 → zmu v1 < n → zq (zb_M_read_20 N n ρ v1) Q := by
    intro n
    induction n with
    | zero => intro _ _ _ _ _ _ _ hn; exact absurd hn (Nat.not_lt_zero _)
    | succ n ih =>
      intro ρ v1 hf hg h2 h4 h0 hn
      rw [zb_M_read_20]
      refine zq_ite (fun c1 => ?_) fun c1 => ?_
      · generalize hX : zx_up (zx_up (zx_up (zx_up (zx_up (zx_up (zx_up (zx_up (zx_up (zx_up (zx_up ρ 82 9 0) 82 10 0) 82 15 0) 82 16 0) 82 17 0) 82 25 0) 82 19 0) 82 5 0) 82 6 0) 82 53 0) 82 62 (-1) = X
        have xq : ∀ q, q ≠ 82 → X q = ρ q := fun q a => by rw [← hX]; simp only [zu_other a]
        have x82 : X 82 = zu (zu (zu (zu (zu (zu (zu (zu (zu (zu (zu (ρ 82) 9 0) 10 0) 15 0) 16 0) 17 0) 25 0) 19 0) 5 0) 6 0) 53 0) 62 (-1) := by rw [← hX]; simp only [zx_up_same]
        have xo : ∀ i, i ≠ 9 → i ≠ 10 → i ≠ 15 → i ≠ 16 → i ≠ 17 → i ≠ 25 → i ≠ 19 → i ≠ 5 → i ≠ 6 → i ≠ 53 → i ≠ 62 → X 82 i = ρ 82 i := fun i a b c d e f g h j k l => by
          rw [x82, zu_ne l, zu_ne k, zu_ne j, zu_ne h, zu_ne g, zu_ne f, zu_ne e, zu_ne d, zu_ne c, zu_ne b, zu_ne a]
        have x9 : X 82 9 = 0 := by rw [x82]; rfl
        have x15 : X 82 15 = 0 := by rw [x82]; rfl
        have x16 : X 82 16 = 0 := by rw [x82]; rfl
        have x17 : X 82 17 = 0 := by rw [x82]; rfl
        have x25 : X 82 25 = 0 := by rw [x82]; rfl
        have x19 : X 82 19 = 0 := by rw [x82]; rfl
        have x5 : X 82 5 = 0 := by rw [x82]; rfl
        have x6 : X 82 6 = 0 := by rw [x82]; rfl
        have x53 : X 82 53 = 0 := by rw [x82]; rfl
        have x62 : X 82 62 = -1 := by rw [x82]; rfl
        have x4 : X 82 4 = σ 82 2 := by rw [xo 4 (by decide) (by decide) (by decide) (by decide) (by decide) (by decide) (by decide) (by decide) (by decide) (by decide) (by decide)]; exact h4
        have x2 : X 82 2 = 0 := by rw [xo 2 (by decide) (by decide) (by decide) (by decide) (by decide) (by decide) (by decide) (by decide) (by decide) (by decide) (by decide)]; exact h2
        have xs : ∀ i, i = 18 ∨ i = 39 ∨ i = 46 → X 82 i = σ 82 i := fun i hi => (xo i (by omega) (by omega) (by omega) (by omega) (by omega) (by omega) (by omega) (by omega) (by omega) (by omega) (by omega)).trans (hg i (by omega) (by omega) (by omega))
        have xr : ∀ q, q ≠ 82 → q ≠ 84 → X q = σ q := fun q a b => (xq q a).trans (hf q a b)
        refine zq_bind (q_f_M_next0 hN (by rw [xr 86 (by decide) (by decide)]; exact g.n6) (by rw [x4]; exact g.tp) (by rw [x5, x6]; decide) fun r2 p2 => ?_)
        obtain ⟨ft, tk, _⟩ := p2
        have f := fun i (a : i ≠ 5) (b : i ≠ 6) (c : i ≠ 7) (d : i ≠ 8) => ft.ff i a b c d
        have s2 : ∀ i, i = 18 ∨ i = 39 ∨ i = 46 → r2 82 i = σ 82 i := fun i hi => (f i (by omega) (by omega) (by omega) (by omega)).trans (xs i hi)
        refine body r2 ⟨fun _ _ => rfl, fun _ _ => rfl, tk, Int32.le_refl _, id, by rw [s2 18 (by simp)]; exact g.lc, by rw [f 15 (by decide) (by decide) (by decide) (by decide), x15]; decide, by rw [f 16 (by decide) (by decide) (by decide) (by decide), x16]; decide, by rw [f 17 (by decide) (by decide) (by decide) (by decide), x17]; decide, by rw [f 19 (by decide) (by decide) (by decide) (by decide), x19]; decide, by rw [ft.fr 90 (by decide), xr 90 (by decide) (by decide)]; exact g.st, by rw [s2 39 (by simp)]; exact g.th, by rw [s2 46 (by simp)]; exact g.dp, by rw [f 25 (by decide) (by decide) (by decide) (by decide), x25]; decide⟩ ?_ ((f 9 (by decide) (by decide) (by decide) (by decide)).trans x9) ((f 2 (by decide) (by decide) (by decide) (by decide)).trans x2) ((f 53 (by decide) (by decide) (by decide) (by decide)).trans x53) ((f 62 (by decide) (by decide) (by decide) (by decide)).trans x62) (fun q hq => (ft.fr q (by omega)).trans (xr q (by omega) (by omega)))
        have e17 : r2 82 17 = 0 := (f 17 (by decide) (by decide) (by decide) (by decide)).trans x17
        have e25 : r2 82 25 = 0 := (f 25 (by decide) (by decide) (by decide) (by decide)).trans x25
        have e19 : r2 82 19 = 0 := (f 19 (by decide) (by decide) (by decide) (by decide)).trans x19
        refine ⟨fun t s h => ?_, fun t s h => ?_, by rw [e19, e17]; decide, fun v v0 v1 => ?_⟩
        · rw [e17] at h; exact absurd h (Nat.not_lt_zero _)
        · rw [e17] at h; exact absurd h (Nat.not_lt_zero _)
        · rw [e25] at v1; exact absurd v1 (Int32.not_lt.mpr v0)
      · have c1' := Int32.not_le.mp c1
        rw [h4] at c1'
        have b15 : 0 ≤ v1 ∧ v1 < 1500 := ⟨h0, Int32.lt_of_lt_of_le c1' g.tp.2⟩
        refine zq_chk b15 fun _ => zq_chk b15 fun _ => ?_
        refine ih _ (v1 + 1) (fun q a b => by rw [zu_other b]; exact hf q a b) (fun i a b c => by rw [zu_other (by decide)]; exact hg i a b c) (by rw [zu_other (by decide)]; exact h2) (by rw [zu_other (by decide)]; exact h4) (by (first | with_reducible assumption | omega | grind)) (zmu_up c1 hn)
  unfold zf_M_read
  refine H20 N _ 0 (fun q a _ => by rw [zu_other a, zu_other a, zu_other a]) (fun i a b c => by rw [zx_up_same, zu_ne b, zx_up_same, zu_ne c, zx_up_same, zu_ne a]) (by rw [zx_up_same, zu_eq]) (by rw [zx_up_same, zu_ne (by decide), zx_up_same, zu_eq]) (by decide) (zmu_lt hN _)
/-! WHAT THE LAW ASKS OF BOTH -/
theorem GM.ge {σ : zS} (g : GM σ) : GE σ σ := ⟨FQ.refl σ, rfl, g.pg, g.rr, g.sc⟩
/-- the reference's own answer: its part alone changes -/
def MO (σ r : zS) : Prop :=
  (GM r) ∧
  (∀ q, q < 82 → r q = σ q) ∧
  (r 82 2 = σ 82 2)
theorem MO.gm {σ r : zS} (h : MO σ r) : GM r := h.1
theorem MO.lo {σ r : zS} (h : MO σ r) : ∀ q, q < 82 → r q = σ q := h.2.1
theorem MO.tp {σ r : zS} (h : MO σ r) : r 82 2 = σ 82 2 := h.2.2
theorem FQ.mo {σ r : zS} (g : GM σ) (f : FQ σ r) (pg : ¬ r 82 21 = 0 → PG r) (rr : ¬ r 82 53 = 0 → PG r ∧ RR r) (rp : ¬ r 82 53 = 0 → ¬ r 82 21 = 0) (sc : -1 ≤ r 82 62 ∧ r 82 62 ≤ 4000) : MO σ r := by
  have e : ∀ i, i ≠ 0 → i ≠ 51 → i ≠ 52 → i ≠ 53 → i ≠ 54 → i ≠ 60 → i ≠ 62 → r 82 i = σ 82 i := f.ff
  refine ⟨⟨by rw [e 2 (by decide) (by decide) (by decide) (by decide) (by decide) (by decide) (by decide)]; exact g.tp, pg, rr, rp, sc, by rw [f.fr 90 (by decide) (by decide)]; exact g.st, by rw [e 39 (by decide) (by decide) (by decide) (by decide) (by decide) (by decide) (by decide)]; exact g.th, by rw [e 46 (by decide) (by decide) (by decide) (by decide) (by decide) (by decide) (by decide)]; exact g.dp, by rw [e 18 (by decide) (by decide) (by decide) (by decide) (by decide) (by decide) (by decide)]; exact g.lc, by rw [f.fr 86 (by decide) (by decide)]; exact g.n6⟩, fun q hq => f.fr q (by omega) (by omega), e 2 (by decide) (by decide) (by decide) (by decide) (by decide) (by decide) (by decide)⟩
theorem GE.mo {σ r : zS} (g : GM σ) (h : GE σ r) : MO σ r :=
  FQ.mo g h.fq h.pg h.rr (by rw [h.z3, h.fq.ff 21 (by decide) (by decide) (by decide) (by decide) (by decide) (by decide) (by decide)]; exact g.rp) h.sc
theorem m_run {N : Nat} (hN : zBig ≤ N) {σ : zS} {Q : Int32 × zS → Prop} (g : GM σ) (hQ : ∀ r, MO σ r.2 → Q r) : zq (zf_M_run N σ) Q := by
  refine q_f_M_run hN g.pg fun r f a b => hQ r ?_
  have e21 : r.2 82 21 = σ 82 21 := f.ff 21 (by decide) (by decide) (by decide) (by decide) (by decide) (by decide) (by decide)
  have pg : ¬ r.2 82 21 = 0 → PG r.2 := fun q => f.pg (g.pg (by rw [← e21]; exact q))
  have nz : σ 82 21 = 0 → σ 82 53 = 0 := fun q => Decidable.byContradiction fun w => g.rp w q
  refine FQ.mo g f pg (fun q => ?_) (fun q => ?_) ?_
  · rcases a with a | ⟨a1, a2⟩ | ⟨a1, a2⟩
    · exact absurd a q
    · exact ⟨f.pg (g.pg a1), a2⟩
    · rw [a2, nz a1] at q; exact absurd rfl q
  · rcases a with a | ⟨a1, _⟩ | ⟨a1, a2⟩
    · exact absurd a q
    · rw [e21]; exact a1
    · rw [a2, nz a1] at q; exact absurd rfl q
  · rcases b with b | ⟨_, b⟩
    · rw [b]; decide
    · rw [b]; exact g.sc
theorem m_whole {N : Nat} (hN : zBig ≤ N) {σ : zS} {x1 : Int32} {Q : Int32 × zS → Prop} (g : GM σ) (hQ : ∀ r, MO σ r.2 → Q r) : zq (zf_M_whole N σ x1) Q := by
  refine q_f_M_whole hN g.rr fun r f a b c => hQ r ?_
  have e21 : r.2 82 21 = σ 82 21 := f.ff 21 (by decide) (by decide) (by decide) (by decide) (by decide) (by decide) (by decide)
  refine FQ.mo g f (fun q => f.pg (g.pg (by rw [← e21]; exact q))) (fun q => ?_) (fun q => ?_) (by rw [c]; exact g.sc)
  · rw [b] at q; exact ⟨f.pg (g.rr q).1, a q⟩
  · rw [b] at q; rw [e21]; exact g.rp q
theorem m_show {N : Nat} (hN : zBig ≤ N) {σ : zS} {x1 x2 : Int32} {Q : Int32 × zS → Prop} (g : GM σ) (hQ : ∀ r, MO σ r.2 → Q r) : zq (zf_M_show N σ x1 x2) Q := by
  refine q_f_M_show0 hN g.ge (fun c => ?_) fun r h => hQ r (h.mo g)
  intro Q' hq
  have rr := (GE.t0 (v := 0) g.ge).rr c
  have rj : RJ σ (zx_up σ 82 0 0) := ⟨rr.1, rr.2⟩
  exact q_f_M_stateShown0 hN rr.2 (fun h k => q_f_M_isOf hN rj h k) (fun k => q_f_M_pairOf hN rj fun r p => k r p) hq
theorem MO.put {σ r : zS} (g : GM σ) (f : ∀ q, q ≠ 82 → q ≠ 83 → r q = σ q) (e : ∀ i, i ≠ 0 → i ≠ 2 → r 82 i = σ 82 i) (t : 0 ≤ r 82 2 ∧ r 82 2 ≤ 1500) : GM r := by
  have pg : PG σ → PG r := PG.of3 (fun q a b => f q (by omega) (by omega)) ⟨e _ (by decide) (by decide), e _ (by decide) (by decide), e _ (by decide) (by decide), e _ (by decide) (by decide)⟩
  refine ⟨t, fun q => pg (g.pg (by rw [← e 21 (by decide) (by decide)]; exact q)), fun q => ?_, ?_, by rw [e 62 (by decide) (by decide)]; exact g.sc, by rw [f 90 (by decide) (by decide)]; exact g.st, by rw [e 39 (by decide) (by decide)]; exact g.th, by rw [e 46 (by decide) (by decide)]; exact g.dp, by rw [e 18 (by decide) (by decide)]; exact g.lc, by rw [f 86 (by decide) (by decide)]; exact g.n6⟩
  · rw [e 53 (by decide) (by decide)] at q
    exact ⟨pg (g.rr q).1, (g.rr q).2.of (e _ (by decide) (by decide)) (e _ (by decide) (by decide)) (e _ (by decide) (by decide)) (fun p hp => f p (by omega) (by omega)) (fun i _ => by rw [f 108 (by decide) (by decide)])⟩
  · rw [e 53 (by decide) (by decide), e 21 (by decide) (by decide)]; exact g.rp
/-- feeding the reference -/
theorem m_feed {N : Nat} (hN : zBig ≤ N) {σ : zS} {x1 x2 x3 x4 x5 : Int32} {Q : Int32 × zS → Prop} (g : GM σ) (hQ : ∀ r, GM r.2 → (∀ q, q < 82 → r.2 q = σ q) → ((σ 82 2 + 20 ≤ 1500 ∧ r.2 82 0 = 0 ∧ r.2 82 2 = σ 82 2 + 20 ∧ r.1 = σ 82 2 + 20) ∨ (¬ σ 82 2 + 20 ≤ 1500 ∧ r.2 82 0 = 1 ∧ r.2 82 2 = σ 82 2)) → Q r) : zq (zf_M_feed N σ x1 x2 x3 x4 x5) Q := by
  unfold zf_M_feed
  refine zq_ite (fun c => ?_) fun c => ?_
  · have tp := g.tp
    have t0 : 0 ≤ (σ 82 2).toInt := Int32.le_iff_toInt_le.mp tp.1
    have t1 : (σ 82 2).toInt ≤ 1500 := Int32.le_iff_toInt_le.mp tp.2
    have k20 : (20 : Int32).toInt = 20 := rfl
    have e20 := z_ti_add (a := σ 82 2) (b := 20) (by omega) (by omega)
    have c' : (σ 82 2 + 20).toInt ≤ 1500 := Int32.le_iff_toInt_le.mp c
    have H : ∀ (n : Nat) (ρ : zS) (v6 : Int32), (∀ q, q ≠ 82 → q ≠ 83 → ρ q = σ q) → (∀ i, i ≠ 0 → i ≠ 2 → ρ 82 i = σ 82 i) → ρ 82 0 = 0 → (ρ 82 2).toInt = (σ 82 2).toInt + v6.toInt → 0 ≤ v6 ∧ v6 ≤ 20 → zmu v6 < n → zq (zb_M_feed_34 N n ρ x1 x2 x3 x4 x5 v6) Q := by
      intro n
      induction n with
      | zero => intro _ _ _ _ _ _ _ hn; exact absurd hn (Nat.not_lt_zero _)
      | succ n ih =>
        intro ρ v6 f e z0 z2 h6 hn
        have v0 : 0 ≤ v6.toInt := Int32.le_iff_toInt_le.mp h6.1
        have v1 : v6.toInt ≤ 20 := Int32.le_iff_toInt_le.mp h6.2
        rw [zb_M_feed_34]
        refine zq_ite (fun c1 => ?_) fun c1 => ?_
        · have c1' : 20 ≤ v6.toInt := Int32.le_iff_toInt_le.mp c1
          have e2 : ρ 82 2 = σ 82 2 + 20 := Int32.toInt_inj.mp (by omega)
          have tb : 0 ≤ ρ 82 2 ∧ ρ 82 2 ≤ 1500 := by
            rw [e2]
            exact ⟨Int32.le_iff_toInt_le.mpr (by rw [e20]; show (0 : Int) ≤ _; omega), c⟩
          exact hQ _ (MO.put g f e tb) (fun q hq => f q (by omega) (by omega)) (Or.inl ⟨c, z0, e2, e2⟩)
        · have c1' := Int32.not_le.mp c1
          have c2 : v6.toInt < 20 := Int32.lt_iff_toInt_lt.mp c1'
          have b : 0 ≤ ρ 82 2 ∧ ρ 82 2 < 1500 := ⟨Int32.le_iff_toInt_le.mpr (by rw [z2]; show (0 : Int) ≤ _; omega), Int32.lt_iff_toInt_lt.mpr (by rw [z2]; show _ < (1500 : Int); omega)⟩
          have e87 : ∀ s0, zq (zb_M_feed_87 (zb_M_feed_34 N n) N ρ x1 x2 x3 x4 x5 v6 s0) Q := by
            intro s0
            unfold zb_M_feed_87
            refine zq_chk b fun _ => ?_
            refine ih _ (v6 + 1) (fun q a d => by rw [zu_other a, zu_other d]; exact f q a d) (fun i a d => by rw [zx_up_same, zu_ne d, zu_other (by decide)]; exact e i a d) (by rw [zx_up_same, zu_ne (by decide), zu_other (by decide)]; exact z0) ?_ ?_ (zmu_up c1 hn)
            · rw [zx_up_same, zu_eq, z_succ b.2, z_succ c1']; omega
            · exact ⟨Int32.le_iff_toInt_le.mpr (by rw [z_succ c1']; show (0 : Int) ≤ _; omega), Int32.le_iff_toInt_le.mpr (by rw [z_succ c1']; show _ ≤ (20 : Int); omega)⟩
          exact zq_ite (fun _ => zq_ite (fun _ => zq_ite (fun _ => zq_ite (fun _ => e87 _) fun _ => e87 _) fun _ => e87 _) fun _ => e87 _) fun _ => e87 _
    unfold zb_M_feed_19
    refine zq_ite (fun _ => ?_) fun q => absurd (by decide) q
    refine H N _ 0 (fun q a _ => zu_other a) (fun i a _ => by rw [zx_up_same, zu_ne a]) (by rw [zx_up_same, zu_eq]) ?_ (by decide) (zmu_lt hN _)
    rw [zx_up_same, zu_ne (by decide), show (0 : Int32).toInt = 0 from rfl]; omega
  · unfold zb_M_feed_19
    refine zq_ite (fun q => absurd q (by decide)) fun _ => ?_
    have e2 : (zx_up σ 82 0 1) 82 2 = σ 82 2 := by rw [zx_up_same, zu_ne (by decide)]
    have gm : GM (zx_up σ 82 0 1) := MO.put g (fun q a _ => zu_other a) (fun i a _ => by rw [zx_up_same, zu_ne a]) (by rw [e2]; exact g.tp)
    exact hQ _ gm (fun q hq => zu_other (by omega)) (Or.inr ⟨c, by show (zx_up σ 82 0 1) 82 0 = 1; rw [zx_up_same, zu_eq], e2⟩)
theorem m_end {σ : zS} {x1 : Int32} {Q : zS → Prop} (g : GM σ) (hQ : ∀ r, GM r → (∀ q, q < 82 → r q = σ q) → (((0 ≤ x1 ∧ x1 ≤ σ 82 2) ∧ r 82 0 = 0 ∧ r 82 2 = x1) ∨ (¬ (0 ≤ x1 ∧ x1 ≤ σ 82 2) ∧ r 82 0 = 1 ∧ r 82 2 = σ 82 2)) → Q r) : zq (zf_M_end σ x1) Q := by
  unfold zf_M_end
  have fin : ∀ (a v : Int32), (0 ≤ v ∧ v ≤ 1500) → GM (zx_up (zx_up σ 82 0 a) 82 2 v) := fun a v hv => MO.put g (fun q x _ => by rw [zu_other x, zu_other x]) (fun i x y => by rw [zx_up_same, zu_ne y, zx_up_same, zu_ne x]) (by rw [zx_up_same, zu_eq]; exact hv)
  refine zq_bind (q_f_M_in fun r1 p1 => ?_)
  refine zq_ite (fun c => ?_) fun c => ?_
  · unfold zb_M_end_18
    refine zq_ite (fun q => absurd q (by decide)) fun _ => ?_
    refine hQ _ (fin 1 _ g.tp) (fun q hq => by rw [zu_other (by omega), zu_other (by omega)]) (Or.inr ⟨?_, by rw [zx_up_same, zu_ne (by decide), zx_up_same, zu_eq], by rw [zx_up_same, zu_eq]⟩)
    rcases p1 with ⟨e, _⟩ | ⟨_, e⟩
    · rw [e] at c; exact absurd c (by decide)
    · exact e
  · unfold zb_M_end_18
    refine zq_ite (fun _ => ?_) fun q => absurd (by decide) q
    have p : 0 ≤ x1 ∧ x1 ≤ σ 82 2 := by
      rcases p1 with ⟨_, e⟩ | ⟨e, _⟩
      · exact e
      · exact absurd e c
    exact hQ _ (fin 0 _ ⟨p.1, Int32.le_trans p.2 g.tp.2⟩) (fun q hq => by rw [zu_other (by omega), zu_other (by omega)]) (Or.inl ⟨p, by rw [zx_up_same, zu_ne (by decide), zx_up_same, zu_eq], by rw [zx_up_same, zu_eq]⟩)
/-- feeding the class -/
def XF (σ r : zS) : Prop :=
  (∀ q, 82 ≤ q → r q = σ q) ∧
  (r 0 = σ 0) ∧
  (r 37 = σ 37) ∧
  (r 78 = σ 78)
theorem XF.hi {σ r : zS} (h : XF σ r) : ∀ q, 82 ≤ q → r q = σ q := h.1
theorem XF.r0 {σ r : zS} (h : XF σ r) : r 0 = σ 0 := h.2.1
theorem XF.sl {σ r : zS} (h : XF σ r) : r 37 = σ 37 := h.2.2.1
theorem XF.rr {σ r : zS} (h : XF σ r) : r 78 = σ 78 := h.2.2.2
theorem XF.step {σ r : zS} {i : Nat} {v w : Int32} (h : XF σ r) : XF σ (zx_up (zx_up r 3 i v) 2 11 w) :=
  ⟨fun q hq => by rw [zu_other (by omega), zu_other (by omega)]; exact h.hi q hq, by rw [zu_other (by decide), zu_other (by decide)]; exact h.r0, by rw [zu_other (by decide), zu_other (by decide)]; exact h.sl, by rw [zu_other (by decide), zu_other (by decide)]; exact h.rr⟩
theorem q_f_X_putBytes {N : Nat} (hN : zBig ≤ N) {σ0 σ : zS} {x1 : Int32} {Q : zS → Prop} (h : XF σ0 σ) (t0 : 0 ≤ (σ 2 11).toInt) (t1 : (σ 2 11).toInt + 4 ≤ 1500) (hQ : ∀ r, XF σ0 r → (r 2 11).toInt = (σ 2 11).toInt + 4 → Q r) : zq (zf_X_putBytes N σ x1) Q := by
  have one : ∀ (n : Nat) (ρ : zS) (v2 : Int32), XF σ0 ρ → ¬ v2 < 0 → 0 ≤ (ρ 2 11).toInt → (ρ 2 11).toInt < 1500 → (∀ ρ', XF σ0 ρ' → (ρ' 2 11).toInt = (ρ 2 11).toInt + 1 → zq (zb_X_putBytes_3 N n ρ' x1 (v2 + (-8))) Q) → zq (zb_X_putBytes_3 N (n + 1) ρ x1 v2) Q := by
    intro n ρ v2 hx h2 h0 h1 k
    rw [zb_X_putBytes_3]
    refine zq_ite (fun c => absurd c h2) fun _ => ?_
    have b : 0 ≤ ρ 2 11 ∧ ρ 2 11 < 1500 := ⟨Int32.le_iff_toInt_le.mpr h0, Int32.lt_iff_toInt_lt.mpr h1⟩
    refine zq_ite (fun c => absurd b.2 (Int32.not_lt.mpr c)) fun _ => ?_
    refine zq_chk b fun _ => k _ hx.step ?_
    rw [zx_up_same, zu_eq, z_succ b.2]
  obtain ⟨m, hm⟩ : ∃ m, N = m + 5 := ⟨N - 5, by unfold zBig at hN; omega⟩
  unfold zf_X_putBytes
  rw [show zb_X_putBytes_3 N N σ x1 24 = zb_X_putBytes_3 N (m + 5) σ x1 24 by rw [← hm]]
  refine one _ σ 24 h (by decide) (by omega) (by omega) fun a ha ea => ?_
  refine one _ a _ ha (by decide) (by omega) (by omega) fun b hb eb => ?_
  refine one _ b _ hb (by decide) (by omega) (by omega) fun c hc ec => ?_
  refine one _ c _ hc (by decide) (by omega) (by omega) fun d hd ed => ?_
  rw [zb_X_putBytes_3]
  refine zq_ite (fun _ => hQ d hd (by omega)) fun q => absurd (by decide) q
theorem x_feed {N : Nat} (hN : zBig ≤ N) {σ : zS} {x1 x2 x3 x4 x5 : Int32} {Q : Int32 × zS → Prop} (t0 : 0 ≤ (σ 2 11).toInt) (t1 : (σ 2 11).toInt + 20 ≤ 1500) (hQ : ∀ r, XF σ r.2 → (r.2 2 11).toInt = (σ 2 11).toInt + 20 → r.1 = r.2 2 11 → Q r) : zq (zf_X_feed N σ x1 x2 x3 x4 x5) Q := by
  have e20 := z_ti_add (a := σ 2 11) (b := 20) (by show _ ≤ _ + (20 : Int); omega) (by show _ + (20 : Int) ≤ _; omega)
  have k20 : (20 : Int32).toInt = 20 := rfl
  unfold zf_X_feed
  refine zq_ite (fun c => ?_) fun _ => ?_
  · have c' : (σ 2 11).toInt < 0 := Int32.lt_iff_toInt_lt.mp c
    omega
  refine zq_ite (fun _ => ?_) fun c => absurd (Int32.le_iff_toInt_le.mpr (by rw [e20, k20]; show _ ≤ (1500 : Int); omega)) c
  have x0 : XF σ σ := ⟨fun _ _ => rfl, rfl, rfl, rfl⟩
  refine zq_bind (q_f_X_putBytes hN x0 (by omega) (by omega) fun r3 h3 e3 => ?_)
  refine zq_bind (q_f_X_putBytes hN h3 (by omega) (by omega) fun r4 h4 e4 => ?_)
  refine zq_bind (q_f_X_putBytes hN h4 (by omega) (by omega) fun r5 h5 e5 => ?_)
  refine zq_bind (q_f_X_putBytes hN h5 (by omega) (by omega) fun r6 h6 e6 => ?_)
  refine zq_bind (q_f_X_putBytes hN h6 (by omega) (by omega) fun r7 h7 e7 => ?_)
  exact hQ _ h7 (by show (r7 2 11).toInt = _; omega) rfl
/-- between two calls of the law -/
def LI (σ : zS) : Prop :=
  (∀ i, 0 ≤ σ 37 i ∧ σ 37 i ≤ 96) ∧
  (∀ i, 0 ≤ σ 78 i ∧ σ 78 i ≤ 96) ∧
  (GM σ) ∧
  (σ 2 11 = σ 82 2)
theorem LI.sl {σ : zS} (h : LI σ) : ∀ i, 0 ≤ σ 37 i ∧ σ 37 i ≤ 96 := h.1
theorem LI.rr {σ : zS} (h : LI σ) : ∀ i, 0 ≤ σ 78 i ∧ σ 78 i ≤ 96 := h.2.1
theorem LI.gm {σ : zS} (h : LI σ) : GM σ := h.2.2.1
theorem LI.eq {σ : zS} (h : LI σ) : σ 2 11 = σ 82 2 := h.2.2.2
theorem LI.jx {σ : zS} (h : LI σ) : JX σ σ := ⟨fun _ _ => rfl, rfl, h.sl, h.rr⟩
theorem GM.hi {σ r : zS} (g : GM σ) (e : ∀ q, 82 ≤ q → r q = σ q) : GM r := by
  have pg : PG σ → PG r := PG.of (fun q a _ => e q a)
  have e82 := e 82 (by decide)
  refine ⟨by rw [e82]; exact g.tp, by rw [e82]; exact fun q => pg (g.pg q), ?_, by rw [e82]; exact g.rp, by rw [e82]; exact g.sc, by rw [e 90 (by decide)]; exact g.st, by rw [e82]; exact g.th, by rw [e82]; exact g.dp, by rw [e82]; exact g.lc, by rw [e 86 (by decide)]; exact g.n6⟩
  rw [e82]
  exact fun q => ⟨pg (g.rr q).1, (g.rr q).2.of (by rw [e82]) (by rw [e82]) (by rw [e82]) (fun p hp => e p (by omega)) (fun i _ => by rw [e 108 (by decide)])⟩
/-- behind the class's answer -/
theorem LI.x {σ r : zS} (h : LI σ) (j : JX σ r) : LI r := ⟨j.sl, j.rr, h.gm.hi j.fr, by rw [j.tp, j.fr 82 (by decide)]; exact h.eq⟩
/-- behind the reference's answer -/
theorem LI.m {σ r : zS} (h : LI σ) (m : MO σ r) : LI r := ⟨by rw [m.lo 37 (by decide)]; exact h.sl, by rw [m.lo 78 (by decide)]; exact h.rr, m.gm, by rw [m.lo 2 (by decide), m.tp]; exact h.eq⟩
