-- both answer alike
set_option maxRecDepth 2000
theorem d_take {N N' m t z : Nat} {len : Nat → Nat} {nc : Nat → Nat → Nat} {ρ μ σ : zS} {w : Nat → Int32} (pc : PC m len nc ρ μ) (st : ST m len nc ρ w (μ 107)) (ld : LDD m ρ w (μ 107) σ) (ht : t < m) (zL : z < len t) (v : μ 107 (15 + 6 * t) = 1) (es : μ 107 (14 + 6 * t) = Int32.ofNat z) {σ1 : zS} (f1 : ∀ p, p ≠ 40 → σ1 p = σ p) (w1 : ∀ i, i < 5 → σ1 40 i = w i) (k0 : μ 92 (24 * t + z) = 3) (cx : CANX ρ (μ 107) t) : zp (zb_Machine_move_116 N σ1 (Int32.ofNat t) (Int32.ofNat (24 * t + z)) 1 (ρ 9 (24 * t + z)) 3) (fun r => (∀ p, p ≠ 40 → r p = σ1 p) ∧ zp (zb_M_doStep_139 N' μ (Int32.ofNat t) (Int32.ofNat (24 * t + z)) (μ 93 (24 * t + z)) 0) (fun s => (∀ p, p ≠ 107 → s p = μ p) ∧ ST m len nc ρ (r 40) (s 107))) := by
  have pc' := pc
  obtain ⟨⟨m4, p1, p1'⟩, p2, p3, p4, p5⟩ := pc
  have l24 := (p2 t ht).1
  have t4 : t < 4 := by omega
  obtain ⟨k92, _, _, _, nm, _, _⟩ := p4 t z ht zL
  obtain ⟨l, l4, e8, e93, _⟩ := nm (Or.inl k0)
  have g : ∀ q, 4 ≤ q → q ≤ 16 → σ1 q = ρ q := fun q a b => (f1 q (by omega)).trans (ld.1 q a b)
  have mid := (st.mid ht v es (by omega)).of m4 ht (fun i hi => w1 i hi) (fun _ _ _ _ => rfl)
  have ok : μ 107 (6 + l) = 0 ∨ μ 107 (6 + l) = Int32.ofNat (t + 1) := by
    rcases cx with ⟨_, c⟩ | ⟨c, _⟩
    · exact c z l (by omega) es (k92.trans k0) l4 e8
    · rw [v] at c; exact absurd c (by decide)
  have a8 := ((p5 t ht).1 z zL l l4).2.1
  have mid2 : MID m len nc ρ t (OUTN 3 (Int32.ofNat l) (nc (24 * t + z))) (σ1 40) ((zx_up (zx_up μ 107 (6 + l) (Int32.ofNat (t + 1))) 107 (10 + l) (μ 107 (10 + l) + 1)) 107) := mid.take m4 ht l4 (by omega) ok (by rw [zx_up_same, zx_up_same])
  have fr : ∀ p, p ≠ 107 → (zx_up (zx_up μ 107 (6 + l) (Int32.ofNat (t + 1))) 107 (10 + l) (μ 107 (10 + l) + 1)) p = μ p := fun p hp => by rw [zu_other hp, zu_other hp]
  unfold zb_Machine_move_116
  refine zp_ite (fun q => absurd q (by decide)) fun _ => zp_ite (fun q => absurd q (by decide)) fun _ => zp_ite (fun q => absurd q (by decide)) fun _ => zp_ite (fun _ => ?_) fun q => absurd rfl q
  refine zp_mono (p_tail (N' := N') (pc'.f fr) mid2 g ht zL ?_ (by rw [k92, k0, e8]; exact fun _ _ => rfl) (by rw [zx_up_same, zu_ne (by omega), zx_up_same, zu_ne (by omega)]; exact v)) fun r' h' => ⟨h'.1, ?_⟩
  · rw [g 7 (by decide) (by decide), k92, k0]; exact fun w => absurd w.2 (by decide)
  · have e6 : (6 : Int32) + Int32.ofNat l = Int32.ofNat (6 + l) := zo_plus (i := 6) rfl (by omega)
    have e10 : (10 : Int32) + Int32.ofNat l = Int32.ofNat (10 + l) := zo_plus (i := 10) rfl (by omega)
    unfold zb_M_doStep_139
    rw [zo_n (m := 24 * t + z) (by omega), k0, e93, e6, e10, zo_n (m := 6 + l) (by omega), zo_n (m := 10 + l) (by omega), zo_1 (m := t) (by omega), show (zx_up μ 107 (6 + l) (Int32.ofNat (t + 1))) 107 (10 + l) = μ 107 (10 + l) by rw [zx_up_same, zu_ne (by omega)]]
    exact zp_chk fun _ => zp_ite (fun q => absurd q (by decide)) fun _ => zp_ite (fun q => absurd q (by decide)) fun _ => zp_ite (fun q => absurd q (by decide)) fun _ => zp_ite (fun _ => zp_chk fun _ => zp_chk fun _ => zp_chk fun _ => zp_mono h'.2 fun s hs => ⟨fun p hp => (hs.1 p hp).trans (fr p hp), hs.2⟩) fun q => absurd rfl q
theorem d_leave {N N' m t z : Nat} {len : Nat → Nat} {nc : Nat → Nat → Nat} {ρ μ σ : zS} {w : Nat → Int32} (pc : PC m len nc ρ μ) (st : ST m len nc ρ w (μ 107)) (ld : LDD m ρ w (μ 107) σ) (ht : t < m) (zL : z < len t) (v : μ 107 (15 + 6 * t) = 1) (es : μ 107 (14 + 6 * t) = Int32.ofNat z) {σ1 : zS} (f1 : ∀ p, p ≠ 40 → σ1 p = σ p) (w1 : ∀ i, i < 5 → σ1 40 i = w i) (k0 : μ 92 (24 * t + z) = 4) : zp (zb_Machine_move_116 N σ1 (Int32.ofNat t) (Int32.ofNat (24 * t + z)) 1 (ρ 9 (24 * t + z)) 4) (fun r => (∀ p, p ≠ 40 → r p = σ1 p) ∧ zp (zb_M_doStep_139 N' μ (Int32.ofNat t) (Int32.ofNat (24 * t + z)) (μ 93 (24 * t + z)) 0) (fun s => (∀ p, p ≠ 107 → s p = μ p) ∧ ST m len nc ρ (r 40) (s 107))) := by
  have pc' := pc
  obtain ⟨⟨m4, p1, p1'⟩, p2, p3, p4, p5⟩ := pc
  have l24 := (p2 t ht).1
  have t4 : t < 4 := by omega
  obtain ⟨k92, _, _, _, nm, _, _⟩ := p4 t z ht zL
  obtain ⟨l, l4, e8, e93, _⟩ := nm (Or.inr (Or.inl k0))
  have g : ∀ q, 4 ≤ q → q ≤ 16 → σ1 q = ρ q := fun q a b => (f1 q (by omega)).trans (ld.1 q a b)
  have mid := (st.mid ht v es (by omega)).of m4 ht (fun i hi => w1 i hi) (fun _ _ _ _ => rfl)
  obtain ⟨_, a8, a0⟩ := (p5 t ht).1 z zL l l4
  have a0 := a0 (k92.trans k0) e8
  obtain ⟨cnt, lv⟩ := mid.leave m4 ht l4 a0 (by omega)
  have fr : ∀ (y : Int32) p, p ≠ 107 → (zx_up (zx_up μ 107 (10 + l) (μ 107 (10 + l) - 1)) 107 (6 + l) y) p = μ p := fun y p hp => by rw [zu_other hp, zu_other hp]
  have mid2 := lv ((zx_up (zx_up μ 107 (10 + l) (μ 107 (10 + l) - 1)) 107 (6 + l) (if nc (24 * t + z) l = 1 then 0 else Int32.ofNat (t + 1))) 107) (by rw [zx_up_same, zx_up_same])
  unfold zb_Machine_move_116
  refine zp_ite (fun q => absurd q (by decide)) fun _ => zp_ite (fun q => absurd q (by decide)) fun _ => zp_ite (fun q => absurd q (by decide)) fun _ => zp_ite (fun q => absurd q (by decide)) fun _ => zp_ite (fun _ => ?_) fun q => absurd rfl q
  refine zp_mono (p_tail (N' := N') (pc'.f (fr _)) mid2 g ht zL ?_ (by rw [k92, k0, e8]; exact fun _ _ => rfl) (by rw [zx_up_same, zu_ne (by omega), zx_up_same, zu_ne (by omega)]; exact v)) fun r' h' => ⟨h'.1, ?_⟩
  · rw [g 7 (by decide) (by decide), k92, k0]; exact fun w => absurd w.2 (by decide)
  · have e6 : (6 : Int32) + Int32.ofNat l = Int32.ofNat (6 + l) := zo_plus (i := 6) rfl (by omega)
    have e10 : (10 : Int32) + Int32.ofNat l = Int32.ofNat (10 + l) := zo_plus (i := 10) rfl (by omega)
    unfold zb_M_doStep_139 zb_M_doStep_432
    rw [zo_n (m := 24 * t + z) (by omega), k0, e93, e6, e10, zo_n (m := 6 + l) (by omega), zo_n (m := 10 + l) (by omega), zo_1 (m := t) (by omega)]
    have one : μ 107 (10 + l) - 1 = 0 ↔ nc (24 * t + z) l = 1 := by
      rw [cnt, zo_pred a0 (by omega)]
      exact ⟨fun e => by have := zo_inj (k := nc (24 * t + z) l - 1) (j := 0) (by omega) (by omega) e; omega, fun e => by rw [e]; rfl⟩
    have fin : ∀ y : Int32, y = (if nc (24 * t + z) l = 1 then 0 else Int32.ofNat (t + 1)) → zp (zb_M_doStep_618 N' (zx_up (zx_up μ 107 (10 + l) (μ 107 (10 + l) - 1)) 107 (6 + l) y) (Int32.ofNat t) (Int32.ofNat (24 * t + z))) (fun s => (∀ p, p ≠ 107 → s p = μ p) ∧ ST m len nc ρ (r' 40) (s 107)) := fun y hy => by
      subst hy
      exact zp_mono h'.2 fun s hs => ⟨fun p hp => (hs.1 p hp).trans (fr _ p hp), hs.2⟩
    refine zp_chk fun _ => zp_ite (fun q => absurd q (by decide)) fun _ => zp_ite (fun q => absurd q (by decide)) fun _ => zp_ite (fun q => absurd q (by decide)) fun _ => zp_ite (fun q => absurd q (by decide)) fun _ => zp_ite (fun _ => zp_chk fun _ => zp_chk fun _ => zp_chk fun _ => zp_ite (fun q => zp_chk fun _ => fin _ ?_) fun q => zp_chk fun _ => fin _ ?_) fun q => absurd rfl q
    · rw [if_neg fun w => q (one.mpr w)]
    · rw [if_pos (one.mp (Classical.not_not.mp q))]
theorem d_test5 {N N' m t z : Nat} {len : Nat → Nat} {nc : Nat → Nat → Nat} {ρ μ σ : zS} {w : Nat → Int32} (pc : PC m len nc ρ μ) (st : ST m len nc ρ w (μ 107)) (ld : LDD m ρ w (μ 107) σ) (ht : t < m) (zL : z < len t) (v : μ 107 (15 + 6 * t) = 1) (es : μ 107 (14 + 6 * t) = Int32.ofNat z) {σ1 : zS} (f1 : ∀ p, p ≠ 40 → σ1 p = σ p) (w1 : ∀ i, i < 5 → σ1 40 i = w i) (k0 : μ 92 (24 * t + z) = 5) : zp (zb_Machine_move_116 N σ1 (Int32.ofNat t) (Int32.ofNat (24 * t + z)) 1 (ρ 9 (24 * t + z)) 5) (fun r => (∀ p, p ≠ 40 → r p = σ1 p) ∧ zp (zb_M_doStep_139 N' μ (Int32.ofNat t) (Int32.ofNat (24 * t + z)) (μ 93 (24 * t + z)) 0) (fun s => (∀ p, p ≠ 107 → s p = μ p) ∧ ST m len nc ρ (r 40) (s 107))) := by
  have pc' := pc
  obtain ⟨⟨m4, p1, p1'⟩, p2, p3, p4, p5⟩ := pc
  have l24 := (p2 t ht).1
  have t4 : t < 4 := by omega
  obtain ⟨k92, ⟨z1, zl1, e9, e94, _⟩, ot, _, _, _, wv⟩ := p4 t z ht zL
  obtain ⟨z2, zl2, e10, e95⟩ := ot (by rw [k0]; decide)
  obtain ⟨e99, e100, sg, vr1, vr2⟩ := wv.2.2.2 (by rw [k92, k0]; decide)
  have g : ∀ q, 4 ≤ q → q ≤ 16 → σ1 q = ρ q := fun q a b => (f1 q (by omega)).trans (ld.1 q a b)
  have tw : TWB (σ1 39 (t + 1)) (μ 107 (14 + 6 * t)) (μ 107 (15 + 6 * t)) (fun i => μ 107 (16 + 6 * t + i)) := by rw [f1 39 (by decide), ld.2.1 (t + 1) (by omega)]; exact st.2.1 t ht
  have mid := (st.mid ht v es (by omega)).of m4 ht (fun i hi => w1 i hi) (fun _ _ _ _ => rfl)
  have n7 : ¬ (σ1 36 t = 1 ∧ σ1 7 (24 * t + z) = 7) := by rw [g 7 (by decide) (by decide), k92, k0]; exact fun w => absurd w.2 (by decide)
  have hd := p_holds (σ := σ1) (μ := μ) (x := μ 107) (q := 24 * t + z) t4 (by omega) tw (fun _ _ => rfl) (by rw [g 14 (by decide) (by decide)]; exact e99) (by rw [g 16 (by decide) (by decide)]; exact e100) (by rw [g 15 (by decide) (by decide)]; exact sg) (by rw [g 14 (by decide) (by decide)]; exact vr1) (by rw [g 16 (by decide) (by decide)]; exact vr2)
  have ha : EQ4 (OUTN (ρ 7 (24 * t + z)) (ρ 8 (24 * t + z)) (nc (24 * t + z))) (nc (24 * t + z)) := OUTN.id (by rw [k92, k0]; decide)
  unfold zb_Machine_move_116 zb_Machine_move_216
  rw [zo_n (m := 24 * t + z) (by omega), g 10 (by decide) (by decide), e9, e10]
  refine zp_ite (fun q => absurd q (by decide)) fun _ => zp_ite (fun q => absurd q (by decide)) fun _ => zp_ite (fun q => absurd q (by decide)) fun _ => zp_ite (fun q => absurd q (by decide)) fun _ => zp_ite (fun q => absurd q (by decide)) fun _ => zp_ite (fun _ => zp_bind (zp_mono hd fun r44 h44 => ?_)) fun q => absurd rfl q
  have ref : ∀ {Q : zS → Prop}, zp (if r44 = 0 then (zf_M_goTo N' μ (Int32.ofNat t) (Int32.ofNat z2)).bind fun r => some r else (zf_M_goTo N' μ (Int32.ofNat t) (Int32.ofNat z1)).bind fun r => some r) Q → zp (zb_M_doStep_139 N' μ (Int32.ofNat t) (Int32.ofNat (24 * t + z)) (μ 93 (24 * t + z)) 0) Q := by
    intro Q h
    unfold zb_M_doStep_139 zb_M_doStep_462
    rw [zo_n (m := 24 * t + z) (by omega), k0, e94, e95]
    refine zp_chk fun _ => zp_ite (fun q => absurd q (by decide)) fun _ => zp_ite (fun q => absurd q (by decide)) fun _ => zp_ite (fun q => absurd q (by decide)) fun _ => zp_ite (fun q => absurd q (by decide)) fun _ => zp_ite (fun q => absurd q (by decide)) fun _ => zp_ite (fun _ => zp_bind (zp_mono h44 fun b hb => ?_)) fun q => absurd rfl q
    subst hb
    by_cases c : r44 = 0
    · rw [if_pos c] at h
      exact zp_ite (fun _ => zp_chk fun _ => h) fun q => absurd c q
    · rw [if_neg c] at h
      exact zp_ite (fun q => absurd q c) fun _ => zp_chk fun _ => h
  refine zp_ite (fun c => zp_chk fun _ => ?_) fun c => ?_
  · refine zp_mono (p_tailz (N' := N') pc' mid g ht (by omega) n7 zl2 (fun lt => (p5 t ht).2.2.2 z z2 zL lt e10) v) fun r' h' => ⟨h'.1, ref ?_⟩
    rw [if_pos c]
    exact h'.2
  · refine zp_mono (p_tailz (N' := N') pc' mid g ht (by omega) n7 zl1 (fun lt => ((p5 t ht).2.2.1 z z1 zL lt (by rw [k92, k0]; decide) e9).tr ha) v) fun r' h' => ⟨h'.1, ref ?_⟩
    rw [if_neg c]
    exact h'.2
theorem d_test6 {N N' m t z : Nat} {len : Nat → Nat} {nc : Nat → Nat → Nat} {ρ μ σ : zS} {w : Nat → Int32} (pc : PC m len nc ρ μ) (st : ST m len nc ρ w (μ 107)) (ld : LDD m ρ w (μ 107) σ) (ht : t < m) (zL : z < len t) (v : μ 107 (15 + 6 * t) = 1) (es : μ 107 (14 + 6 * t) = Int32.ofNat z) {σ1 : zS} (f1 : ∀ p, p ≠ 40 → σ1 p = σ p) (w1 : ∀ i, i < 5 → σ1 40 i = w i) (k0 : μ 92 (24 * t + z) = 6) : zp (zb_Machine_move_116 N σ1 (Int32.ofNat t) (Int32.ofNat (24 * t + z)) 1 (ρ 9 (24 * t + z)) 6) (fun r => (∀ p, p ≠ 40 → r p = σ1 p) ∧ zp (zb_M_doStep_139 N' μ (Int32.ofNat t) (Int32.ofNat (24 * t + z)) (μ 93 (24 * t + z)) 0) (fun s => (∀ p, p ≠ 107 → s p = μ p) ∧ ST m len nc ρ (r 40) (s 107))) := by
  have pc' := pc
  obtain ⟨⟨m4, p1, p1'⟩, p2, p3, p4, p5⟩ := pc
  have l24 := (p2 t ht).1
  have t4 : t < 4 := by omega
  obtain ⟨k92, ⟨z1, zl1, e9, e94, _⟩, ot, _, _, _, wv⟩ := p4 t z ht zL
  obtain ⟨z2, zl2, e10, e95⟩ := ot (by rw [k0]; decide)
  obtain ⟨e99, e100, sg, vr1, vr2⟩ := wv.2.2.2 (by rw [k92, k0]; decide)
  have g : ∀ q, 4 ≤ q → q ≤ 16 → σ1 q = ρ q := fun q a b => (f1 q (by omega)).trans (ld.1 q a b)
  have tw : TWB (σ1 39 (t + 1)) (μ 107 (14 + 6 * t)) (μ 107 (15 + 6 * t)) (fun i => μ 107 (16 + 6 * t + i)) := by rw [f1 39 (by decide), ld.2.1 (t + 1) (by omega)]; exact st.2.1 t ht
  have mid := (st.mid ht v es (by omega)).of m4 ht (fun i hi => w1 i hi) (fun _ _ _ _ => rfl)
  have n7 : ¬ (σ1 36 t = 1 ∧ σ1 7 (24 * t + z) = 7) := by rw [g 7 (by decide) (by decide), k92, k0]; exact fun w => absurd w.2 (by decide)
  have hd := p_holds (σ := σ1) (μ := μ) (x := μ 107) (q := 24 * t + z) t4 (by omega) tw (fun _ _ => rfl) (by rw [g 14 (by decide) (by decide)]; exact e99) (by rw [g 16 (by decide) (by decide)]; exact e100) (by rw [g 15 (by decide) (by decide)]; exact sg) (by rw [g 14 (by decide) (by decide)]; exact vr1) (by rw [g 16 (by decide) (by decide)]; exact vr2)
  have ha : EQ4 (OUTN (ρ 7 (24 * t + z)) (ρ 8 (24 * t + z)) (nc (24 * t + z))) (nc (24 * t + z)) := OUTN.id (by rw [k92, k0]; decide)
  unfold zb_Machine_move_116 zb_Machine_move_216
  rw [zo_n (m := 24 * t + z) (by omega), g 10 (by decide) (by decide), e9, e10]
  refine zp_ite (fun q => absurd q (by decide)) fun _ => zp_ite (fun q => absurd q (by decide)) fun _ => zp_ite (fun q => absurd q (by decide)) fun _ => zp_ite (fun q => absurd q (by decide)) fun _ => zp_ite (fun q => absurd q (by decide)) fun _ => zp_ite (fun q => absurd q (by decide)) fun _ => zp_ite (fun _ => zp_bind (zp_mono hd fun r44 h44 => ?_)) fun q => absurd rfl q
  have ref : ∀ {Q : zS → Prop}, zp (if r44 = 0 then (zf_M_goTo N' μ (Int32.ofNat t) (Int32.ofNat z2)).bind fun r => some r else (zf_M_goTo N' μ (Int32.ofNat t) (Int32.ofNat z1)).bind fun r => some r) Q → zp (zb_M_doStep_139 N' μ (Int32.ofNat t) (Int32.ofNat (24 * t + z)) (μ 93 (24 * t + z)) 0) Q := by
    intro Q h
    unfold zb_M_doStep_139 zb_M_doStep_462
    rw [zo_n (m := 24 * t + z) (by omega), k0, e94, e95]
    refine zp_chk fun _ => zp_ite (fun q => absurd q (by decide)) fun _ => zp_ite (fun q => absurd q (by decide)) fun _ => zp_ite (fun q => absurd q (by decide)) fun _ => zp_ite (fun q => absurd q (by decide)) fun _ => zp_ite (fun q => absurd q (by decide)) fun _ => zp_ite (fun q => absurd q (by decide)) fun _ => zp_ite (fun _ => zp_bind (zp_mono h44 fun b hb => ?_)) fun q => absurd rfl q
    subst hb
    by_cases c : r44 = 0
    · rw [if_pos c] at h
      exact zp_ite (fun _ => zp_chk fun _ => h) fun q => absurd c q
    · rw [if_neg c] at h
      exact zp_ite (fun q => absurd q c) fun _ => zp_chk fun _ => h
  refine zp_ite (fun c => zp_chk fun _ => ?_) fun c => ?_
  · refine zp_mono (p_tailz (N' := N') pc' mid g ht (by omega) n7 zl2 (fun lt => (p5 t ht).2.2.2 z z2 zL lt e10) v) fun r' h' => ⟨h'.1, ref ?_⟩
    rw [if_pos c]
    exact h'.2
  · refine zp_mono (p_tailz (N' := N') pc' mid g ht (by omega) n7 zl1 (fun lt => ((p5 t ht).2.2.1 z z1 zL lt (by rw [k92, k0]; decide) e9).tr ha) v) fun r' h' => ⟨h'.1, ref ?_⟩
    rw [if_neg c]
    exact h'.2
theorem d_check {N N' m t z : Nat} {len : Nat → Nat} {nc : Nat → Nat → Nat} {ρ μ σ : zS} {w : Nat → Int32} (pc : PC m len nc ρ μ) (st : ST m len nc ρ w (μ 107)) (ld : LDD m ρ w (μ 107) σ) (ht : t < m) (zL : z < len t) (v : μ 107 (15 + 6 * t) = 1) (es : μ 107 (14 + 6 * t) = Int32.ofNat z) {σ1 : zS} (f1 : ∀ p, p ≠ 40 → σ1 p = σ p) (w1 : ∀ i, i < 5 → σ1 40 i = w i) (k0 : μ 92 (24 * t + z) = 12) : zp (zb_Machine_move_116 N σ1 (Int32.ofNat t) (Int32.ofNat (24 * t + z)) 1 (ρ 9 (24 * t + z)) 12) (fun r => (∀ p, p ≠ 40 → r p = σ1 p) ∧ zp (zb_M_doStep_139 N' μ (Int32.ofNat t) (Int32.ofNat (24 * t + z)) (μ 93 (24 * t + z)) 0) (fun s => (∀ p, p ≠ 107 → s p = μ p) ∧ ST m len nc ρ (r 40) (s 107))) := by
  have pc' := pc
  obtain ⟨⟨m4, p1, p1'⟩, p2, p3, p4, p5⟩ := pc
  have l24 := (p2 t ht).1
  have t4 : t < 4 := by omega
  obtain ⟨k92, _, _, _, _, _, wv⟩ := p4 t z ht zL
  obtain ⟨e99, e100, sg, vr1, vr2⟩ := wv.2.2.2 (by rw [k92, k0]; decide)
  have g : ∀ q, 4 ≤ q → q ≤ 16 → σ1 q = ρ q := fun q a b => (f1 q (by omega)).trans (ld.1 q a b)
  have tw : TWB (σ1 39 (t + 1)) (μ 107 (14 + 6 * t)) (μ 107 (15 + 6 * t)) (fun i => μ 107 (16 + 6 * t + i)) := by rw [f1 39 (by decide), ld.2.1 (t + 1) (by omega)]; exact st.2.1 t ht
  have mid := (st.mid ht v es (by omega)).of m4 ht (fun i hi => w1 i hi) (fun _ _ _ _ => rfl)
  have n7 : ¬ (σ1 36 t = 1 ∧ σ1 7 (24 * t + z) = 7) := by rw [g 7 (by decide) (by decide), k92, k0]; exact fun w => absurd w.2 (by decide)
  have hd := p_holds (σ := σ1) (μ := μ) (x := μ 107) (q := 24 * t + z) t4 (by omega) tw (fun _ _ => rfl) (by rw [g 14 (by decide) (by decide)]; exact e99) (by rw [g 16 (by decide) (by decide)]; exact e100) (by rw [g 15 (by decide) (by decide)]; exact sg) (by rw [g 14 (by decide) (by decide)]; exact vr1) (by rw [g 16 (by decide) (by decide)]; exact vr2)
  have r01 : zp (zf_Machine_holds σ1 (Int32.ofNat t) (Int32.ofNat (24 * t + z))) (fun r => r = 0 ∨ r = 1) := by
    unfold zf_Machine_holds
    exact zp_chk fun _ => zp_bind fun _ _ => zp_chk fun _ => zp_bind fun _ _ => zp_chk fun _ => zp_ite (fun _ => zp_ite (fun _ => zp_some (Or.inl rfl)) fun _ => zp_some (Or.inr rfl)) fun _ => zp_ite (fun _ => zp_ite (fun _ => zp_some (Or.inl rfl)) fun _ => zp_some (Or.inr rfl)) fun _ => zp_ite (fun _ => zp_ite (fun _ => zp_some (Or.inl rfl)) fun _ => zp_some (Or.inr rfl)) fun _ => zp_ite (fun _ => zp_some (Or.inl rfl)) fun _ => zp_some (Or.inr rfl)
  have ha : EQ4 (OUTN (ρ 7 (24 * t + z)) (ρ 8 (24 * t + z)) (nc (24 * t + z))) (nc (24 * t + z)) := OUTN.id (by rw [k92, k0]; decide)
  unfold zb_Machine_move_116
  refine zp_ite (fun q => absurd q (by decide)) fun _ => zp_ite (fun q => absurd q (by decide)) fun _ => zp_ite (fun q => absurd q (by decide)) fun _ => zp_ite (fun q => absurd q (by decide)) fun _ => zp_ite (fun q => absurd q (by decide)) fun _ => zp_ite (fun q => absurd q (by decide)) fun _ => zp_ite (fun q => absurd q (by decide)) fun _ => zp_ite (fun q => absurd q (by decide)) fun _ => zp_ite (fun q => absurd q (by decide)) fun _ => zp_ite (fun q => absurd q (by decide)) fun _ => zp_ite (fun q => absurd q (by decide)) fun _ => zp_ite (fun q => absurd q (by decide)) fun _ => zp_ite (fun _ => zp_bind (zp_mono (zp_and hd r01) fun r35 h35 => ?_)) fun q => absurd rfl q
  have ref : ∀ {Q : zS → Prop}, zp (if ¬ r35 = 0 then zb_M_doStep_618 N' μ (Int32.ofNat t) (Int32.ofNat (24 * t + z)) else (zf_M_failing N' μ (Int32.ofNat t)).bind fun r => some r) Q → zp (zb_M_doStep_139 N' μ (Int32.ofNat t) (Int32.ofNat (24 * t + z)) (μ 93 (24 * t + z)) 0) Q := by
    intro Q h
    unfold zb_M_doStep_139
    rw [zo_n (m := 24 * t + z) (by omega), k0]
    refine zp_chk fun _ => zp_ite (fun q => absurd q (by decide)) fun _ => zp_ite (fun q => absurd q (by decide)) fun _ => zp_ite (fun q => absurd q (by decide)) fun _ => zp_ite (fun q => absurd q (by decide)) fun _ => zp_ite (fun q => absurd q (by decide)) fun _ => zp_ite (fun q => absurd q (by decide)) fun _ => zp_ite (fun q => absurd q (by decide)) fun _ => zp_ite (fun q => absurd q (by decide)) fun _ => zp_ite (fun q => absurd q (by decide)) fun _ => zp_ite (fun q => absurd q (by decide)) fun _ => zp_ite (fun q => absurd q (by decide)) fun _ => zp_ite (fun q => absurd q (by decide)) fun _ => zp_ite (fun _ => zp_bind (zp_mono h35.1 fun b hb => ?_)) fun q => absurd rfl q
    subst hb
    by_cases c : r35 = 0
    · rw [if_neg (fun q => q c)] at h
      exact zp_ite (fun q => absurd c q) fun _ => h
    · rw [if_pos c] at h
      exact zp_ite (fun _ => h) fun q => absurd q (fun q => q c)
  rcases h35.2 with e | e
  · rw [e] at ref ⊢
    refine c_failS t4 tw ?_
    rw [es]
    refine zp_mono (p_fail5 (N := N') pc' mid ht zL es) fun r' h' => ⟨h'.1, ref ?_⟩
    rw [if_neg (fun q => q rfl)]
    exact zp_bind (zp_mono h'.2 fun s hs => zp_some hs)
  · rw [e] at ref ⊢
    refine zp_mono (p_tail (N' := N') pc' mid g ht zL n7 ha v) fun r' h' => ⟨h'.1, ref ?_⟩
    rw [if_pos (by decide)]
    exact h'.2
theorem d_stop {N N' m t z : Nat} {len : Nat → Nat} {nc : Nat → Nat → Nat} {ρ μ σ : zS} {w : Nat → Int32} (pc : PC m len nc ρ μ) (st : ST m len nc ρ w (μ 107)) (ld : LDD m ρ w (μ 107) σ) (ht : t < m) (zL : z < len t) (v : μ 107 (15 + 6 * t) = 1) (es : μ 107 (14 + 6 * t) = Int32.ofNat z) {σ1 : zS} (f1 : ∀ p, p ≠ 40 → σ1 p = σ p) (w1 : ∀ i, i < 5 → σ1 40 i = w i) (k0 : μ 92 (24 * t + z) = 13) : zp (zb_Machine_move_116 N σ1 (Int32.ofNat t) (Int32.ofNat (24 * t + z)) 1 (ρ 9 (24 * t + z)) 13) (fun r => (∀ p, p ≠ 40 → r p = σ1 p) ∧ zp (zb_M_doStep_139 N' μ (Int32.ofNat t) (Int32.ofNat (24 * t + z)) (μ 93 (24 * t + z)) 0) (fun s => (∀ p, p ≠ 107 → s p = μ p) ∧ ST m len nc ρ (r 40) (s 107))) := by
  have pc' := pc
  obtain ⟨⟨m4, p1, p1'⟩, p2, p3, p4, p5⟩ := pc
  have l24 := (p2 t ht).1
  have t4 : t < 4 := by omega
  obtain ⟨k92, ⟨z1, zl1, e9, _, k13⟩, _⟩ := p4 t z ht zL
  have k13 := k13 k0
  have g : ∀ q, 4 ≤ q → q ≤ 16 → σ1 q = ρ q := fun q a b => (f1 q (by omega)).trans (ld.1 q a b)
  have mid := (st.mid ht v es (by omega)).of m4 ht (fun i hi => w1 i hi) (fun _ _ _ _ => rfl)
  have n7 : ¬ (σ1 36 t = 1 ∧ σ1 7 (24 * t + z) = 7) := by rw [g 7 (by decide) (by decide), k92, k0]; exact fun w => absurd w.2 (by decide)
  unfold zb_Machine_move_116
  rw [e9]
  refine zp_ite (fun q => absurd q (by decide)) fun _ => zp_ite (fun q => absurd q (by decide)) fun _ => zp_ite (fun q => absurd q (by decide)) fun _ => zp_ite (fun q => absurd q (by decide)) fun _ => zp_ite (fun q => absurd q (by decide)) fun _ => zp_ite (fun q => absurd q (by decide)) fun _ => zp_ite (fun q => absurd q (by decide)) fun _ => zp_ite (fun q => absurd q (by decide)) fun _ => zp_ite (fun q => absurd q (by decide)) fun _ => zp_ite (fun q => absurd q (by decide)) fun _ => zp_ite (fun q => absurd q (by decide)) fun _ => zp_ite (fun q => absurd q (by decide)) fun _ => zp_ite (fun q => absurd q (by decide)) fun _ => zp_mono (p_tailz (N' := N') pc' mid g ht (by omega) n7 zl1 (fun lt => by omega) v) fun r' h' => ⟨h'.1, ?_⟩
  unfold zb_M_doStep_139
  rw [zo_n (m := 24 * t + z) (by omega), k0, zo_n (m := t) (by omega), (p2 t ht).2.2, ← k13]
  exact zp_chk fun _ => zp_ite (fun q => absurd q (by decide)) fun _ => zp_ite (fun q => absurd q (by decide)) fun _ => zp_ite (fun q => absurd q (by decide)) fun _ => zp_ite (fun q => absurd q (by decide)) fun _ => zp_ite (fun q => absurd q (by decide)) fun _ => zp_ite (fun q => absurd q (by decide)) fun _ => zp_ite (fun q => absurd q (by decide)) fun _ => zp_ite (fun q => absurd q (by decide)) fun _ => zp_ite (fun q => absurd q (by decide)) fun _ => zp_ite (fun q => absurd q (by decide)) fun _ => zp_ite (fun q => absurd q (by decide)) fun _ => zp_ite (fun q => absurd q (by decide)) fun _ => zp_ite (fun q => absurd q (by decide)) fun _ => zp_ite (fun _ => zp_chk fun _ => h'.2) fun q => absurd rfl q
theorem d_other {N N' m t z : Nat} {len : Nat → Nat} {nc : Nat → Nat → Nat} {ρ μ σ : zS} {w : Nat → Int32} (pc : PC m len nc ρ μ) (st : ST m len nc ρ w (μ 107)) (ld : LDD m ρ w (μ 107) σ) (ht : t < m) (zL : z < len t) (v : μ 107 (15 + 6 * t) = 1) (es : μ 107 (14 + 6 * t) = Int32.ofNat z) {σ1 : zS} (f1 : ∀ p, p ≠ 40 → σ1 p = σ p) (w1 : ∀ i, i < 5 → σ1 40 i = w i) {k : Int32} (k0 : μ 92 (24 * t + z) = k) (nk : ∀ j : Int32, (j = 0 ∨ j = 1 ∨ j = 2 ∨ j = 3 ∨ j = 4 ∨ j = 5 ∨ j = 6 ∨ j = 7 ∨ j = 8 ∨ j = 9 ∨ j = 10 ∨ j = 12 ∨ j = 13) → ¬ k = j) : zp (zb_Machine_move_116 N σ1 (Int32.ofNat t) (Int32.ofNat (24 * t + z)) 1 (ρ 9 (24 * t + z)) k) (fun r => (∀ p, p ≠ 40 → r p = σ1 p) ∧ zp (zb_M_doStep_139 N' μ (Int32.ofNat t) (Int32.ofNat (24 * t + z)) (μ 93 (24 * t + z)) 0) (fun s => (∀ p, p ≠ 107 → s p = μ p) ∧ ST m len nc ρ (r 40) (s 107))) := by
  have pc' := pc
  obtain ⟨⟨m4, p1, p1'⟩, p2, p3, p4, p5⟩ := pc
  have l24 := (p2 t ht).1
  have t4 : t < 4 := by omega
  obtain ⟨k92, _⟩ := p4 t z ht zL
  have g : ∀ q, 4 ≤ q → q ≤ 16 → σ1 q = ρ q := fun q a b => (f1 q (by omega)).trans (ld.1 q a b)
  have mid := (st.mid ht v es (by omega)).of m4 ht (fun i hi => w1 i hi) (fun _ _ _ _ => rfl)
  have n7 : ¬ (σ1 36 t = 1 ∧ σ1 7 (24 * t + z) = 7) := by rw [g 7 (by decide) (by decide), k92, k0]; exact fun q => nk 7 (by decide) q.2
  have ha : EQ4 (OUTN (ρ 7 (24 * t + z)) (ρ 8 (24 * t + z)) (nc (24 * t + z))) (nc (24 * t + z)) := OUTN.id (by rw [k92, k0]; exact ⟨nk 3 (by decide), nk 4 (by decide)⟩)
  have T := p_tail (N := N) (N' := N') pc' mid g ht zL n7 ha v
  have ref : ∀ {Q : zS → Prop}, zp (zb_M_doStep_618 N' μ (Int32.ofNat t) (Int32.ofNat (24 * t + z))) Q → zp (zb_M_doStep_139 N' μ (Int32.ofNat t) (Int32.ofNat (24 * t + z)) (μ 93 (24 * t + z)) 0) Q := by
    intro Q h
    unfold zb_M_doStep_139
    rw [zo_n (m := 24 * t + z) (by omega), k0]
    exact zp_chk fun _ => zp_ite (fun q => absurd q (nk 0 (by decide))) fun _ => zp_ite (fun q => absurd q (nk 1 (by decide))) fun _ => zp_ite (fun q => absurd q (nk 2 (by decide))) fun _ => zp_ite (fun q => absurd q (nk 3 (by decide))) fun _ => zp_ite (fun q => absurd q (nk 4 (by decide))) fun _ => zp_ite (fun q => absurd q (nk 5 (by decide))) fun _ => zp_ite (fun q => absurd q (nk 6 (by decide))) fun _ => zp_ite (fun q => absurd q (nk 7 (by decide))) fun _ => zp_ite (fun q => absurd q (nk 8 (by decide))) fun _ => zp_ite (fun q => absurd q (nk 9 (by decide))) fun _ => zp_ite (fun q => absurd q (nk 10 (by decide))) fun _ => zp_ite (fun _ => h) fun _ => zp_ite (fun q => absurd q (nk 12 (by decide))) fun _ => zp_ite (fun q => absurd q (nk 13 (by decide))) fun _ => h
  unfold zb_Machine_move_116
  exact zp_ite (fun q => absurd q (nk 0 (by decide))) fun _ => zp_ite (fun q => absurd q (nk 1 (by decide))) fun _ => zp_ite (fun q => absurd q (nk 2 (by decide))) fun _ => zp_ite (fun q => absurd q (nk 3 (by decide))) fun _ => zp_ite (fun q => absurd q (nk 4 (by decide))) fun _ => zp_ite (fun q => absurd q (nk 5 (by decide))) fun _ => zp_ite (fun q => absurd q (nk 6 (by decide))) fun _ => zp_ite (fun q => absurd q (nk 7 (by decide))) fun _ => zp_ite (fun q => absurd q (nk 8 (by decide))) fun _ => zp_ite (fun q => absurd q (nk 9 (by decide))) fun _ => zp_ite (fun q => absurd q (nk 10 (by decide))) fun _ => zp_ite (fun _ => zp_mono T fun r' h' => ⟨h'.1, ref h'.2⟩) fun _ => zp_ite (fun q => absurd q (nk 12 (by decide))) fun _ => zp_mono T fun r' h' => ⟨h'.1, ref h'.2⟩
theorem MID.wait {m t z l : Nat} {len : Nat → Nat} {nc : Nat → Nat → Nat} {ρ : zS} {w w' x x' : Nat → Int32} (m4 : m ≤ 4) (l24 : len t ≤ 24) (ht : t < m) (zL : z < len t) (l4 : l < 4) (h : MID m len nc ρ t (nc (24 * t + z)) w x) (k7 : ρ 7 (24 * t + z) = 7) (e8 : ρ 8 (24 * t + z) = Int32.ofNat l) (own : x (6 + l) = Int32.ofNat (t + 1)) (e14 : x (14 + 6 * t) = Int32.ofNat z) (ew : ∀ i, i < 5 → i ≠ t + 1 → w' i = w i) (et : ∃ k, (k = 511 ∨ k = 131583) ∧ w' (t + 1) = ((w (t + 1) &&& k) ||| (zJ_shl (Int32.ofNat z) 9)) ||| (zJ_shl 2 14)) (ex : x' = zu (zu (zu (zu x (19 + 6 * t) (x (10 + l))) (6 + l) 0) (10 + l) 0) (15 + 6 * t) 2) : ST m len nc ρ w' x' := by
  obtain ⟨a1, ⟨a2, s, hh, a2'⟩, a3, a4, ⟨a5, a5'⟩, a6, a7⟩ := h
  subst ex
  generalize hX : (zu (zu (zu (zu x (19 + 6 * t) (x (10 + l))) (6 + l) 0) (10 + l) 0) (15 + 6 * t) 2) = X
  have e : ∀ i, i ≠ 19 + 6 * t → i ≠ 6 + l → i ≠ 10 + l → i ≠ 15 + 6 * t → X i = x i := fun i b1 b2 b3 b4 => by rw [← hX, zu_ne b4, zu_ne b3, zu_ne b2, zu_ne b1]
  have X15 : X (15 + 6 * t) = 2 := by rw [← hX, zu_eq]
  have X6 : X (6 + l) = 0 := by rw [← hX, zu_ne (by omega), zu_ne (by omega), zu_eq]
  have X10 : X (10 + l) = 0 := by rw [← hX, zu_ne (by omega), zu_eq]
  have X19 : X (19 + 6 * t) = x (10 + l) := by rw [← hX, zu_ne (by omega), zu_ne (by omega), zu_ne (by omega), zu_eq]
  clear hX
  have X14 : X (14 + 6 * t) = Int32.ofNat z := by rw [e _ (by omega) (by omega) (by omega) (by omega)]; exact e14
  have hu' : ∀ u j, u < m → u ≠ t → HN ρ nc X u j = HN ρ nc x u j := fun u j hu ne => HN.congr (e _ (by omega) (by omega) (by omega) (by omega)) (e _ (by omega) (by omega) (by omega) (by omega))
  have hn : ∀ j, HN ρ nc X t j = if ρ 8 (24 * t + z) = Int32.ofNat j then 0 else nc (24 * t + z) j := fun j => HN.wait (Or.inl X15) X14 (by omega)
  have me : 0 < nc (24 * t + z) l ∧ (∀ u, u < m → u ≠ t → HN ρ nc x u l = 0) ∧ x (10 + l) = Int32.ofNat (nc (24 * t + z) l) := by
    rcases a6 l l4 with ⟨_, b2, _⟩ | ⟨u, hu, b1, b2, b3, b4⟩
    · have := zo_inj (k := 0) (j := t + 1) (by omega) (by omega) (b2.symm.trans own)
      omega
    · have ut : u = t := by
        have := zo_inj (k := u + 1) (j := t + 1) (by omega) (by omega) (b3.symm.trans own)
        omega
      subst ut
      rw [HNA.at] at b1 b4
      refine ⟨b1, fun v hv ne => ?_, b4⟩
      have := b2 v hv ne
      rw [HNA.ne ne] at this
      exact this
  refine ⟨?_, fun u hu => ?_, fun u hu h4 => ?_, fun u hu => ?_, fun u hu => ?_, fun j hj => ?_, ?_⟩
  · rw [ew 0 (by omega) (by omega)]
    exact a1.of fun f hf => e f (by omega) (by omega) (by omega) (by omega)
  · by_cases c : u = t
    · subst c
      obtain ⟨k, hk, e'⟩ := et
      rw [e', X14, X15]
      have z31 : (0 : Int32) ≤ Int32.ofNat z ∧ Int32.ofNat z ≤ 31 := ⟨(zo_le (k := 0) (j := z) (by omega) (by omega)).mpr (Nat.zero_le _), (zo_le (k := z) (j := 31) (by omega) (by omega)).mpr (by omega)⟩
      exact (a2'.plc hk z31 (by decide)).of rfl rfl fun i hi => e _ (by omega) (by omega) (by omega) (by omega)
    · rw [ew (u + 1) (by omega) (by omega)]
      exact (a2 u hu c).of (e _ (by omega) (by omega) (by omega) (by omega)) (e _ (by omega) (by omega) (by omega) (by omega)) fun i hi => e _ (by omega) (by omega) (by omega) (by omega)
  · rw [ew (u + 1) (by omega) (by omega)]
    exact ⟨(a3 u hu h4).1, fun i hi => by rw [e _ (by omega) (by omega) (by omega) (by omega)]; exact (a3 u hu h4).2 i hi⟩
  · by_cases c : u = t
    · subst c
      rw [X14, X15]
      exact Or.inr (Or.inr (Or.inl ⟨Or.inl rfl, z, l, zL, rfl, k7, l4, e8, me.1⟩))
    · rw [e (14 + 6 * u) (by omega) (by omega) (by omega) (by omega), e (15 + 6 * u) (by omega) (by omega) (by omega) (by omega)]; exact a4 u hu c
  · by_cases c : u = t
    · subst c
      refine ⟨fun _ z' l' z1 z2 l1 e' => ?_, fun q => absurd (Or.inl X15) q⟩
      have zE : z' = z := zo_inj (by omega) (by omega) (z2.symm.trans X14)
      subst zE
      have ll : l' = l := zo_inj (by omega) (by omega) (e'.symm.trans e8)
      subst ll
      rw [X19]
      exact me.2.2
    · unfold SVD
      rw [e (15 + 6 * u) (by omega) (by omega) (by omega) (by omega), e (14 + 6 * u) (by omega) (by omega) (by omega) (by omega), e (19 + 6 * u) (by omega) (by omega) (by omega) (by omega)]
      exact a5 u hu c
  · by_cases c : j = l
    · subst c
      refine Or.inl ⟨fun u hu => ?_, X6, X10⟩
      by_cases d : u = t
      · rw [d, hn, if_pos e8]
      · rw [hu' u j hu d]; exact me.2.1 u hu d
    · refine (a6 j hj).congr (fun u hu => ?_) (e _ (by omega) (by omega) (by omega) (by omega)) (e _ (by omega) (by omega) (by omega) (by omega))
      by_cases d : u = t
      · rw [d, hn, HNA.at, e8, if_neg fun q => c (zo_inj (by omega) (by omega) q.symm)]
      · rw [HNA.ne d, hu' u j hu d]
  · rw [e 38 (by omega) (by omega) (by omega) (by omega), e 39 (by omega) (by omega) (by omega) (by omega)]; exact a7
theorem c_signal {N t q l : Nat} {σ : zS} {Q : Int32 × zS → Prop} (t4 : t < 4) (q96 : q < 96) (l4 : l < 4) (e8 : σ 8 q = Int32.ofNat l) (yes : σ 38 l = Int32.ofNat t → zp (zb_Machine_signal_49 N N σ (Int32.ofNat l) (σ 7 q) (if σ 7 q = 7 then 0 else 1) 0) Q) (not : ¬ σ 38 l = Int32.ofNat t → Q (0, σ)) : zp (zf_Machine_signal N σ (Int32.ofNat t) (Int32.ofNat q)) Q := by
  unfold zf_Machine_signal zb_Machine_signal_44
  rw [zo_n (m := q) (by omega), e8]
  refine zp_chk fun _ => zp_chk fun _ => zp_bind (zp_mono (c_ownerOf l4) fun r3 e3 => ?_)
  subst e3
  refine zp_ite (fun y => ?_) fun y => zp_some (not y)
  have k := yes y
  by_cases c : σ 7 q = 7
  · rw [if_pos c] at k
    exact zp_ite (fun _ => k) fun n => absurd c n
  · rw [if_neg c] at k
    exact zp_ite (fun n => absurd n c) fun _ => k
theorem LDD.me {m t l : Nat} {ρ σ : zS} {w x : Nat → Int32} (m4 : m ≤ 4) (h : LDD m ρ w x σ) (ht : t < m) (l4 : l < 4) : σ 38 l = Int32.ofNat t ↔ x (6 + l) = Int32.ofNat (t + 1) := by
  rcases h.2.2.2 l l4 with ⟨a, b⟩ | ⟨u, hu, a, b⟩
  · rw [a, b]
    refine ⟨fun q => absurd q.symm (zo_ne (by omega)), fun q => ?_⟩
    have := zo_inj (k := 0) (j := t + 1) (by omega) (by omega) q
    omega
  · rw [a, b]
    refine ⟨fun q => by rw [zo_inj (by omega) (by omega) q], fun q => ?_⟩
    have := zo_inj (k := u + 1) (j := t + 1) (by omega) (by omega) q
    rw [show u = t by omega]
theorem d_wait {N N' m t z : Nat} {len : Nat → Nat} {nc : Nat → Nat → Nat} {ρ μ σ : zS} {w : Nat → Int32} (pc : PC m len nc ρ μ) (st : ST m len nc ρ w (μ 107)) (ld : LDD m ρ w (μ 107) σ) (ht : t < m) (zL : z < len t) (v : μ 107 (15 + 6 * t) = 1) (es : μ 107 (14 + 6 * t) = Int32.ofNat z) {σ1 : zS} (f1 : ∀ p, p ≠ 40 → σ1 p = σ p) (w1 : ∀ i, i < 5 → σ1 40 i = w i) {l : Nat} (k0 : μ 92 (24 * t + z) = 7) (l4 : l < 4) (e8 : ρ 8 (24 * t + z) = Int32.ofNat l) (e93 : μ 93 (24 * t + z) = Int32.ofNat l) : zp (zb_Machine_move_116 N σ1 (Int32.ofNat t) (Int32.ofNat (24 * t + z)) 1 (ρ 9 (24 * t + z)) 7) (fun r => (∀ p, p ≠ 40 → r p = σ1 p) ∧ zp (zb_M_doStep_139 N' μ (Int32.ofNat t) (Int32.ofNat (24 * t + z)) (μ 93 (24 * t + z)) (if μ 107 (6 + l) = Int32.ofNat (t + 1) then 1 else 0)) (fun s => (∀ p, p ≠ 107 → s p = μ p) ∧ ST m len nc ρ (r 40) (s 107))) := by
  have pc' := pc
  obtain ⟨⟨m4, p1, p1'⟩, p2, p3, p4, p5⟩ := pc
  have l24 := (p2 t ht).1
  have t4 : t < 4 := by omega
  obtain ⟨k92, _⟩ := p4 t z ht zL
  have g : ∀ q, 4 ≤ q → q ≤ 16 → σ1 q = ρ q := fun q a b => (f1 q (by omega)).trans (ld.1 q a b)
  have tw : TWB (σ1 39 (t + 1)) (μ 107 (14 + 6 * t)) (μ 107 (15 + 6 * t)) (fun i => μ 107 (16 + 6 * t + i)) := by rw [f1 39 (by decide), ld.2.1 (t + 1) (by omega)]; exact st.2.1 t ht
  have mid := (st.mid ht v es (by omega)).of m4 ht (fun i hi => w1 i hi) (fun _ _ _ _ => rfl)
  have own : σ1 38 l = Int32.ofNat t ↔ μ 107 (6 + l) = Int32.ofNat (t + 1) := by rw [f1 38 (by decide)]; exact ld.me m4 ht l4
  have e6 : (6 : Int32) + Int32.ofNat l = Int32.ofNat (6 + l) := zo_plus (i := 6) rfl (by omega)
  have e10 : (10 : Int32) + Int32.ofNat l = Int32.ofNat (10 + l) := zo_plus (i := 10) rfl (by omega)
  unfold zb_Machine_move_116
  refine zp_ite (fun q => absurd q (by decide)) fun _ => zp_ite (fun q => absurd q (by decide)) fun _ => zp_ite (fun q => absurd q (by decide)) fun _ => zp_ite (fun q => absurd q (by decide)) fun _ => zp_ite (fun q => absurd q (by decide)) fun _ => zp_ite (fun q => absurd q (by decide)) fun _ => zp_ite (fun q => absurd q (by decide)) fun _ => zp_ite (fun _ => zp_bind (c_signal t4 (by omega) l4 (by rw [g 8 (by decide) (by decide)]; exact e8) (fun y => ?_) fun y => ?_)) fun q => absurd rfl q
  · have y' := own.mp y
    rw [g 7 (by decide) (by decide), k92, k0, if_pos rfl]
    have sg : zp (zb_Machine_signal_49 N N σ1 (Int32.ofNat l) 7 0 0) (fun r => r = (1, σ1)) := by
      cases N with
      | zero => exact zp_none
      | succ N =>
        rw [zb_Machine_signal_49]
        exact zp_ite (fun _ => zp_some rfl) fun _ => zp_ite (fun _ => zp_some rfl) fun q => absurd rfl q
    refine zp_mono sg fun r40 e40 => ?_
    rw [e40]
    dsimp only
    unfold zb_Machine_move_261 zf_Machine_stepOf
    rw [zo_n (m := 24 * t + z) (by omega), g 7 (by decide) (by decide), k92, k0]
    refine zp_ite (fun _ => zp_bind (zp_mono (c_howOf t4) fun r26 e26 => ?_)) fun q => absurd (by decide) q
    rw [f1 36 (by decide), (ld.2.2.1 t ht).1, v] at e26
    subst e26
    refine zp_ite (fun q => absurd rfl q) fun _ => zp_chk fun _ => zp_ite (fun q => absurd rfl q) fun _ => zp_bind (zp_bind (zp_mono (c_wordOf t4) fun r1 e1 => zp_some ?_))
    rw [e1, tw.stp, es]
    refine zp_bind (zp_mono (c_place t4) fun r ⟨fr, fw, ft⟩ => zp_some ⟨fr, ?_⟩)
    rw [if_pos y']
    unfold zb_M_doStep_139 zf_M_at
    rw [zo_n (m := 24 * t + z) (by omega), k0, e93, e6, e10, zo_n (m := 6 + l) (by omega), zo_n (m := 10 + l) (by omega), zo_at t4]
    refine zp_chk fun _ => zp_ite (fun q => absurd q (by decide)) fun _ => zp_ite (fun q => absurd q (by decide)) fun _ => zp_ite (fun q => absurd q (by decide)) fun _ => zp_ite (fun q => absurd q (by decide)) fun _ => zp_ite (fun q => absurd q (by decide)) fun _ => zp_ite (fun q => absurd q (by decide)) fun _ => zp_ite (fun q => absurd q (by decide)) fun _ => zp_ite (fun _ => zp_ite (fun q => absurd q (by decide)) fun _ => zp_bind (zp_some ?_)) fun q => absurd rfl q
    have a5 : Int32.ofNat (14 + 6 * t) + 5 = Int32.ofNat (19 + 6 * t) := by
      rw [show 19 + 6 * t = 14 + 6 * t + 5 by omega]
      exact zo_plus (i := 14 + 6 * t) (j := 5) rfl (by omega)
    rw [a5, zo_n (m := 19 + 6 * t) (by omega)]
    refine zp_chk fun _ => zp_chk fun _ => zp_chk fun _ => zp_chk fun _ => zp_bind (zp_some ?_)
    rw [zo_1 (m := 14 + 6 * t) (by omega), zo_n (m := 14 + 6 * t + 1) (by omega), show 14 + 6 * t + 1 = 15 + 6 * t by omega]
    refine zp_chk fun _ => zp_some ⟨fun p hp => by rw [zu_other hp, zu_other hp, zu_other hp, zu_other hp], ?_⟩
    exact mid.wait m4 l24 ht zL l4 (k92.trans k0) e8 y' es (fun i hi ne => fw i ne) ft (by rw [zx_up_same, zx_up_same, zx_up_same, zx_up_same])
  · have y' : ¬ μ 107 (6 + l) = Int32.ofNat (t + 1) := fun q => y (own.mpr q)
    dsimp only
    refine c_failS t4 tw ?_
    rw [es]
    refine zp_mono (p_fail5 (N := N') pc' mid ht zL es) fun r' h' => ⟨h'.1, ?_⟩
    rw [if_neg y']
    unfold zb_M_doStep_139
    rw [zo_n (m := 24 * t + z) (by omega), k0]
    exact zp_chk fun _ => zp_ite (fun q => absurd q (by decide)) fun _ => zp_ite (fun q => absurd q (by decide)) fun _ => zp_ite (fun q => absurd q (by decide)) fun _ => zp_ite (fun q => absurd q (by decide)) fun _ => zp_ite (fun q => absurd q (by decide)) fun _ => zp_ite (fun q => absurd q (by decide)) fun _ => zp_ite (fun q => absurd q (by decide)) fun _ => zp_ite (fun _ => zp_ite (fun _ => zp_bind (zp_mono h'.2 fun s hs => zp_some hs)) fun q => absurd rfl q) fun q => absurd rfl q
theorem MID.wake {m t u : Nat} {len : Nat → Nat} {nc : Nat → Nat → Nat} {ρ : zS} {a : Nat → Nat} {w w' x x' : Nat → Int32} (m4 : m ≤ 4) (ht : t < m) (hu : u < m) (ne : u ≠ t) (h : MID m len nc ρ t a w x) (h2 : x (15 + 6 * u) = 2) (ew : ∀ i, i < 5 → i ≠ u + 1 → w' i = w i) (et : ∃ k, (k = 511 ∨ k = 131583) ∧ w' (u + 1) = ((w (u + 1) &&& k) ||| (zJ_shl (x (14 + 6 * u)) 9)) ||| (zJ_shl 3 14)) (ex : x' = zu x (15 + 6 * u) 3) : MID m len nc ρ t a w' x' := by
  obtain ⟨a1, ⟨a2, s, hh, a2'⟩, a3, a4, ⟨a5, a5'⟩, a6, a7⟩ := h
  subst ex
  have e : ∀ i, i ≠ 15 + 6 * u → (zu x (15 + 6 * u) 3) i = x i := fun i hi => zu_ne hi
  have hn : ∀ v l, v < m → HN ρ nc (zu x (15 + 6 * u) 3) v l = HN ρ nc x v l := fun v l hv => by
    by_cases c : v = u
    · subst c
      unfold HN
      rw [zu_eq, e _ (by omega), h2, if_neg (show ¬ (3 : Int32) = 1 by decide), if_pos (show (3 : Int32) = 2 ∨ (3 : Int32) = 3 by decide), if_neg (show ¬ (2 : Int32) = 1 by decide), if_pos (show (2 : Int32) = 2 ∨ (2 : Int32) = 3 by decide)]
    · exact HN.congr (e _ (by omega)) (e _ (by omega))
  refine ⟨?_, ⟨fun v hv nv => ?_, s, hh, ?_⟩, fun v hv h4 => ?_, fun v hv nv => ?_, ⟨fun v hv nv => ?_, by rw [e _ (by omega)]; exact a5'⟩, fun l hl => (a6 l hl).congr (fun v hv => ?_) (e _ (by omega)) (e _ (by omega)), ?_⟩
  · rw [ew 0 (by omega) (by omega)]
    exact a1.of fun f hf => e f (by omega)
  · by_cases c : v = u
    · subst c
      obtain ⟨k, hk, e'⟩ := et
      rw [e', zu_eq, e _ (by omega)]
      exact ((a2 v hv nv).plc hk (a2 v hv nv).1.1 (by decide)).of rfl rfl fun i hi => e _ (by omega)
    · rw [ew (v + 1) (by omega) (by omega)]
      exact (a2 v hv nv).of (e _ (by omega)) (e _ (by omega)) fun i hi => e _ (by omega)
  · rw [ew (t + 1) (by omega) (by omega)]
    exact a2'.of rfl rfl fun i hi => e _ (by omega)
  · rw [ew (v + 1) (by omega) (by omega)]
    exact ⟨(a3 v hv h4).1, fun i hi => by rw [e _ (by omega)]; exact (a3 v hv h4).2 i hi⟩
  · by_cases c : v = u
    · subst c
      rw [zu_eq, e _ (by omega)]
      rcases a4 v hv nv with q | q | q | q
      · rw [q.1] at h2; exact absurd h2 (by decide)
      · rcases q.1 with k | k <;> rw [k] at h2 <;> exact absurd h2 (by decide)
      · exact Or.inr (Or.inr (Or.inl ⟨Or.inr rfl, q.2⟩))
      · rw [q.1] at h2; exact absurd h2 (by decide)
    · rw [e _ (by omega), e (15 + 6 * v) (by omega)]; exact a4 v hv nv
  · by_cases c : v = u
    · subst c
      refine ⟨fun _ => ?_, fun q => absurd (Or.inr (by rw [zu_eq])) q⟩
      rw [e (14 + 6 * v) (by omega), e (19 + 6 * v) (by omega)]
      exact (a5 v hv nv).1 (Or.inl h2)
    · unfold SVD
      rw [e (15 + 6 * v) (by omega), e (14 + 6 * v) (by omega), e (19 + 6 * v) (by omega)]
      exact a5 v hv nv
  · by_cases c : v = t
    · rw [c, HNA.at, HNA.at]
    · rw [HNA.ne c, HNA.ne c]; exact hn v l hv
  · rw [e 38 (by omega), e 39 (by omega)]; exact a7
theorem p_wake {N N' m t l : Nat} {len : Nat → Nat} {nc : Nat → Nat → Nat} {ρ μ σ : zS} {w : Nat → Int32} {a : Nat → Nat} {kd al : Int32} (pc : PC m len nc ρ μ) (st : ST m len nc ρ w (μ 107)) (ld : LDD m ρ w (μ 107) σ) (ht : t < m) (l4 : l < 4) (h1 : μ 107 (15 + 6 * t) = 1) (al' : (kd = 9 ∧ al = 1) ∨ (¬ kd = 9 ∧ al = 0)) : ∀ (n u : Nat) (σ2 μ2 : zS) (mo : Int32), u ≤ m → (∀ p, p ≠ 40 → σ2 p = σ p) → (∀ p, p ≠ 107 → μ2 p = μ p) → MID m len nc ρ t a (σ2 40) (μ2 107) → (∀ i, (∀ v, v < u → i ≠ 15 + 6 * v) → μ2 107 i = μ 107 i) → μ2 107 (15 + 6 * t) = 1 → zp (zb_Machine_signal_49 N n σ2 (Int32.ofNat l) kd mo (Int32.ofNat u)) (fun r => r.1 = 1 ∧ (∀ p, p ≠ 40 → r.2 p = σ p) ∧ ∀ n', zp (zb_M_wake_5 N' n' μ2 (Int32.ofNat l) al mo (Int32.ofNat u)) (fun s => (∀ p, p ≠ 107 → s p = μ p) ∧ MID m len nc ρ t a (r.2 40) (s 107) ∧ s 107 (15 + 6 * t) = 1)) := by
  obtain ⟨⟨m4, p1, p1'⟩, p2, p3, p4, p5⟩ := pc
  obtain ⟨_, b2, _, b4, _, _, _⟩ := st
  intro n
  induction n with
  | zero => intro _ _ _ _ _ _ _ _ _ _; exact zp_none
  | succ n ih =>
    intro u σ2 μ2 mo um f1 f2 mid same r1
    rw [zb_Machine_signal_49]
    have e42 : σ2 4 2 = Int32.ofNat m := by rw [f1 4 (by decide), ld.1 4 (by decide) (by decide)]; exact p1
    have e17 : μ2 82 17 = Int32.ofNat m := by rw [f2 82 (by decide)]; exact p1'
    rw [e42]
    have stop : (u = m ∨ mo = 0) → (1 : Int32) = 1 ∧ (∀ p, p ≠ 40 → σ2 p = σ p) ∧ ∀ n', zp (zb_M_wake_5 N' n' μ2 (Int32.ofNat l) al mo (Int32.ofNat u)) (fun s => (∀ p, p ≠ 107 → s p = μ p) ∧ MID m len nc ρ t a (σ2 40) (s 107) ∧ s 107 (15 + 6 * t) = 1) := fun h => by
      refine ⟨rfl, f1, fun n' => ?_⟩
      cases n' with
      | zero => exact zp_none
      | succ n' =>
        rw [zb_M_wake_5, e17]
        refine zp_ite (fun _ => zp_some ⟨f2, mid, r1⟩) fun q => zp_ite (fun _ => zp_some ⟨f2, mid, r1⟩) fun q' => ?_
        rcases h with h | h
        · exact absurd ((zo_le (k := m) (j := u) (by omega) (by omega)).mpr (by omega)) q
        · exact absurd h q'
    refine zp_ite (fun q => zp_some (stop (Or.inl ?_))) fun q => zp_ite (fun z => zp_some (stop (Or.inr z))) fun nz => ?_
    · have := (zo_le (k := m) (j := u) (by omega) (by omega)).mp q
      omega
    · have lt : u < m := by
        by_cases c : u < m
        · exact c
        · exact absurd ((zo_le (k := m) (j := u) (by omega) (by omega)).mpr (by omega)) q
      have u4 : u < 4 := by omega
      have nu : ¬ m ≤ u := by omega
      have s15 : μ2 107 (15 + 6 * u) = μ 107 (15 + 6 * u) := same _ fun v hv => by omega
      have s14 : μ2 107 (14 + 6 * u) = μ 107 (14 + 6 * u) := same _ fun v hv => by omega
      have same' : ∀ i, (∀ v, v < u + 1 → i ≠ 15 + 6 * v) → μ2 107 i = μ 107 i := fun i hi => same i fun v hv => hi v (by omega)
      have ref : ∀ {Q : zS → Prop} (n' : Nat), (∀ n', zp (if ¬ (μ 107 (15 + 6 * u)) = 2 then zb_M_wake_5 N' n' μ2 (Int32.ofNat l) al mo (Int32.ofNat (u + 1)) else if ¬ (μ 93 (24 * u + (μ 107 (14 + 6 * u)).toNatClampNeg)) = Int32.ofNat l then zb_M_wake_5 N' n' μ2 (Int32.ofNat l) al mo (Int32.ofNat (u + 1)) else zb_M_wake_5 N' n' (zx_up μ2 107 (15 + 6 * u) 3) (Int32.ofNat l) al al (Int32.ofNat (u + 1))) Q) → zp (zb_M_wake_5 N' n' μ2 (Int32.ofNat l) al mo (Int32.ofNat u)) Q := by
        intro Q n' h
        cases n' with
        | zero => exact zp_none
        | succ n' =>
          have h := h n'
          rw [zb_M_wake_5, e17]
          unfold zb_M_wake_70 zf_M_at
          refine zp_ite (fun q' => absurd q' q) fun _ => zp_ite (fun z => absurd z nz) fun _ => zp_bind (zp_mono (m_stateOf u4) fun r3 e3 => ?_)
          rw [s15] at e3
          subst e3
          rw [zo_1 (m := u) (by omega), zo_at u4, f2 93 (by decide)]
          by_cases c : μ 107 (15 + 6 * u) = 2
          · rw [if_neg (fun w => w c)] at h
            obtain ⟨zE, ll, zS', es', _⟩ : ∃ zE ll, zE < len u ∧ μ 107 (14 + 6 * u) = Int32.ofNat zE ∧ ll < 4 := by
              rcases b4 u lt with k | k | ⟨_, zE, ll, k1, k2, _, k4, _⟩ | k
              · rw [k.1] at c; exact absurd c (by decide)
              · rcases k.1 with k | k <;> rw [k] at c <;> exact absurd c (by decide)
              · exact ⟨zE, ll, k1, k2, k4⟩
              · rw [k.1] at c; exact absurd c (by decide)
            have lu := (p2 u lt).1
            rw [es', zo_n (m := zE) (by omega)] at h
            refine zp_ite (fun w => absurd c w) fun _ => zp_bind (zp_some ?_)
            rw [zo_n (m := 14 + 6 * u) (by omega), s14, es', (z24 u4 (by omega)).2.1]
            refine zp_chk fun _ => zp_chk fun _ => ?_
            by_cases d : μ 93 (24 * u + zE) = Int32.ofNat l
            · rw [if_neg (fun w => w d)] at h
              refine zp_ite (fun w => absurd d w) fun _ => zp_bind (zp_some ?_)
              rw [zo_1 (m := 14 + 6 * u) (by omega), zo_n (m := 14 + 6 * u + 1) (by omega), show 14 + 6 * u + 1 = 15 + 6 * u by omega]
              exact zp_chk fun _ => h
            · rw [if_pos d] at h
              exact zp_ite (fun _ => h) fun w => absurd w (fun w => w d)
          · rw [if_pos c] at h
            exact zp_ite (fun _ => h) fun w => absurd w (fun w => w c)
      unfold zb_Machine_signal_119 zb_Machine_signal_121
      rw [zo_1 (m := u) (by omega)]
      refine zp_bind (zp_mono (c_howOf u4) fun r8 e8 => ?_)
      rw [f1 36 (by decide), (ld.2.2.1 u lt).1] at e8
      subst e8
      refine zp_ite (fun c => ?_) fun c => ?_
      · refine zp_mono (ih (u + 1) σ2 μ2 mo (by omega) f1 f2 mid same' r1) fun r hr => ⟨hr.1, hr.2.1, fun n' => ref n' fun n'' => ?_⟩
        rw [if_pos c]
        exact hr.2.2 n''
      · have c2 : μ 107 (15 + 6 * u) = 2 := Classical.not_not.mp c
        have ne : u ≠ t := fun e => by
          rw [e, h1] at c2
          exact absurd c2 (by decide)
        obtain ⟨zE, ll, k1, k2, k7, k4, k8⟩ : ∃ zE ll, zE < len u ∧ μ 107 (14 + 6 * u) = Int32.ofNat zE ∧ ρ 7 (24 * u + zE) = 7 ∧ ll < 4 ∧ ρ 8 (24 * u + zE) = Int32.ofNat ll := by
          rcases b4 u lt with k | k | ⟨_, zE, ll, k1, k2, k7, k4, k8, _⟩ | k
          · rw [k.1] at c2; exact absurd c2 (by decide)
          · rcases k.1 with k | k <;> rw [k] at c2 <;> exact absurd c2 (by decide)
          · exact ⟨zE, ll, k1, k2, k7, k4, k8⟩
          · rw [k.1] at c2; exact absurd c2 (by decide)
        obtain ⟨lu, e5, _⟩ := p2 u lt
        obtain ⟨k92, _, _, _, nm, _, _⟩ := p4 u zE lt k1
        obtain ⟨l', _, e8', e93', _⟩ := nm (by rw [← k92, k7]; decide)
        have e93 : μ 93 (24 * u + zE) = Int32.ofNat ll := by rw [e93', ← e8', k8]
        have slot : σ2 37 u = Int32.ofNat (24 * u + zE) := by
          rw [f1 37 (by decide)]
          exact (ld.2.2.1 u lt).2 zE (by omega) k2 (by rw [e5]; exact (zo_lt (by omega) (by omega)).mpr k1)
        refine zp_bind (zp_mono (c_slotOf u4) fun r10 e10 => ?_)
        rw [slot] at e10
        subst e10
        rw [zo_n (m := 24 * u + zE) (by omega), f1 8 (by decide), ld.1 8 (by decide) (by decide), k8]
        refine zp_chk fun _ => zp_ite (fun d => ?_) fun d => zp_bind ?_
        · refine zp_mono (ih (u + 1) σ2 μ2 mo (by omega) f1 f2 mid same' r1) fun r hr => ⟨hr.1, hr.2.1, fun n' => ref n' fun n'' => ?_⟩
          rw [if_neg (fun w => w c2), k2, zo_n (m := zE) (by omega), e93, if_pos d]
          exact hr.2.2 n''
        · unfold zf_Machine_stepOf
          refine zp_bind (zp_mono (c_wordOf u4) fun r1' e1' => zp_some ?_)
          rw [e1', f1 39 (by decide), ld.2.1 (u + 1) (by omega), (b2 u lt).stp]
          refine zp_bind (zp_mono (c_place u4) fun r14 ⟨fr, fw, ft⟩ => ?_)
          have mid' : MID m len nc ρ t a (r14 40) ((zx_up μ2 107 (15 + 6 * u) 3) 107) := mid.wake m4 ht lt ne (s15.trans c2) (fun i hi n => fw i n) (by rw [s14]; exact ft) (by rw [zx_up_same])
          have go : ∀ mo' : Int32, zp (zb_Machine_signal_49 N n r14 (Int32.ofNat l) kd mo' (Int32.ofNat (u + 1))) (fun r => r.1 = 1 ∧ (∀ p, p ≠ 40 → r.2 p = σ p) ∧ ∀ n', zp (zb_M_wake_5 N' n' (zx_up μ2 107 (15 + 6 * u) 3) (Int32.ofNat l) al mo' (Int32.ofNat (u + 1))) (fun s => (∀ p, p ≠ 107 → s p = μ p) ∧ MID m len nc ρ t a (r.2 40) (s 107) ∧ s 107 (15 + 6 * t) = 1)) := fun mo' => ih (u + 1) r14 (zx_up μ2 107 (15 + 6 * u) 3) mo' (by omega) (fun p hp => (fr p hp).trans (f1 p hp)) (fun p hp => by rw [zu_other hp]; exact f2 p hp) mid' (fun i hi => by rw [zx_up_same, zu_ne (hi u (by omega))]; exact same i fun v hv => hi v (by omega)) (by rw [zx_up_same, zu_ne (by omega)]; exact r1)
          have dl : Int32.ofNat ll = Int32.ofNat l := Classical.not_not.mp d
          have fin : ∀ r : Int32 × zS, (∀ n', zp (zb_M_wake_5 N' n' (zx_up μ2 107 (15 + 6 * u) 3) (Int32.ofNat l) al al (Int32.ofNat (u + 1))) (fun s => (∀ p, p ≠ 107 → s p = μ p) ∧ MID m len nc ρ t a (r.2 40) (s 107) ∧ s 107 (15 + 6 * t) = 1)) → ∀ n', zp (zb_M_wake_5 N' n' μ2 (Int32.ofNat l) al mo (Int32.ofNat u)) (fun s => (∀ p, p ≠ 107 → s p = μ p) ∧ MID m len nc ρ t a (r.2 40) (s 107) ∧ s 107 (15 + 6 * t) = 1) := fun r h n' => ref n' fun n'' => by
            rw [if_neg (fun w => w c2), k2, zo_n (m := zE) (by omega), e93, if_neg (fun w => w dl)]
            exact h n''
          rcases al' with ⟨k9, a1⟩ | ⟨k9, a0⟩
          · refine zp_ite (fun w => absurd k9 w) fun _ => zp_mono (go 1) fun r hr => ⟨hr.1, hr.2.1, fin r ?_⟩
            have h' := hr.2.2
            rw [← a1] at h'
            rw [a1] at h' ⊢
            exact h'
          · refine zp_ite (fun _ => zp_mono (go 0) fun r hr => ⟨hr.1, hr.2.1, fin r ?_⟩) fun w => absurd w (fun w => w k9)
            have h' := hr.2.2
            rw [a0] at h' ⊢
            exact h'
