-- both answer alike
set_option maxRecDepth 2000
def RNG (x : Int32) : Prop := x = -1 ∨ ∃ n : Nat, n ≤ 24 ∧ x = Int32.ofNat n
def ROWS (σ : zS) (len : Nat → Nat) (t : Nat) : Prop := ∀ s, s < len t → ROW σ σ (24 * t + s) ∧ (σ 92 (24 * t + s) = 13 → σ 9 (24 * t + s) = Int32.ofNat (len t)) ∧ RNG (σ 94 (24 * t + s)) ∧ ((σ 92 (24 * t + s) = 5 ∨ σ 92 (24 * t + s) = 6) → RNG (σ 95 (24 * t + s)))
theorem shl_r1 : ∀ n : Fin 25, ∀ s : Fin 24, bit (zJ_shl 1 (Int32.ofNat n.val)) s.val ↔ n.val = s.val := by decide +kernel
theorem shl_r2 : ∀ s : Fin 24, ¬ bit (zJ_shl 1 (-1)) s.val := by decide +kernel
theorem shl_rng {x : Int32} {s : Nat} (h : RNG x) (hs : s < 24) : bit (zJ_shl 1 x) s ↔ x = Int32.ofNat s := by
  rcases h with e | ⟨n, hn, e⟩
  · subst e
    exact ⟨fun w => absurd w (shl_r2 ⟨s, hs⟩), fun w => absurd w.symm (zo_ne (by omega))⟩
  · subst e
    have a := shl_r1 ⟨n, by omega⟩ ⟨s, hs⟩
    dsimp only at a
    rw [a]
    exact ⟨fun w => by rw [w], fun w => zo_inj (by omega) (by omega) w⟩
theorem p_behindOf {σ : zS} {len : Nat → Nat} {t s : Nat} (ht : t < 4) (hs : s < len t) (hl : len t ≤ 24) (h90 : σ 90 t = Int32.ofNat (len t)) (rows : ROWS σ len t) : zp (zf_M_behindOf σ (Int32.ofNat t) (Int32.ofNat s)) (fun r => ∀ s', s' < 24 → (bit r s' ↔ EDG σ len t s s')) := by
  obtain ⟨⟨k1, k2, k3, k4, k5, k6, k7, k8⟩, k13, g4, g5⟩ := rows s hs
  unfold zf_M_behindOf
  rw [(z24 ht (show s ≤ 24 by omega)).2.2.2, zo_n (m := 24 * t + s) (by omega)]
  have A : ∀ s0 : Int32, zp (zb_M_behindOf_69 σ (Int32.ofNat t) s0) (fun r => ∀ s', s' < 24 → (bit r s' ↔ (bit s0 s' ∧ s' < len t))) := fun s0 => by
    unfold zb_M_behindOf_69
    rw [zo_n (m := t) (by omega), h90]
    exact zp_chk fun _ => zp_some fun s' hs' => by rw [bit_and hs', bit_mask hl hs']
  have B : ∀ s0 : Int32, (∀ s', s' < 24 → s' < len t → (bit s0 s' ↔ σ 9 (24 * t + s) = Int32.ofNat s')) → zp (zb_M_behindOf_30 σ (Int32.ofNat t) (Int32.ofNat (24 * t + s)) s0) (fun r => ∀ s', s' < 24 → (bit r s' ↔ EDG σ len t s s')) := fun s0 h0 => by
    unfold zb_M_behindOf_30 zb_M_behindOf_53
    rw [zo_n (m := 24 * t + s) (by omega)]
    have yes : (σ 92 (24 * t + s) = 5 ∨ σ 92 (24 * t + s) = 6) → zp (zb_M_behindOf_69 σ (Int32.ofNat t) (s0 ||| (zJ_shl 1 (σ 95 (24 * t + s))))) (fun r => ∀ s', s' < 24 → (bit r s' ↔ EDG σ len t s s')) := fun hk => by
      refine zp_mono (A _) fun r hr s' hs' => ?_
      rw [hr s' hs', bit_or hs', shl_rng (g5 hk) hs', ← k5 hk]
      constructor
      · rintro ⟨w, l⟩
        exact ⟨hs, l, w.elim (fun w => Or.inl ((h0 s' hs' l).mp w)) Or.inr⟩
      · rintro ⟨_, l, w⟩
        exact ⟨w.elim (fun w => Or.inl ((h0 s' hs' l).mpr w)) Or.inr, l⟩
    refine zp_chk fun _ => zp_ite (fun k => zp_chk fun _ => yes (Or.inl k)) fun n5 => zp_chk fun _ => zp_ite (fun n6 => zp_mono (A _) fun r hr s' hs' => ?_) fun k => zp_chk fun _ => yes (Or.inr (Classical.not_not.mp k))
    have no : ¬ σ 10 (24 * t + s) = Int32.ofNat s' := fun w => by
      rw [k6 fun z => z.elim n5 n6] at w
      exact zo_ne (by omega) w.symm
    rw [hr s' hs']
    constructor
    · rintro ⟨w, l⟩
      exact ⟨hs, l, Or.inl ((h0 s' hs' l).mp w)⟩
    · rintro ⟨_, l, w⟩
      exact ⟨(h0 s' hs' l).mpr (w.resolve_right no), l⟩
  refine zp_chk fun _ => zp_ite (fun _ => zp_chk fun _ => B _ fun s' hs' _ => ?_) fun k => B _ fun s' hs' l => ?_
  · rw [shl_rng g4 hs', k4]
  · refine ⟨fun w => absurd w (bit_zero hs'), fun w => ?_⟩
    rw [k13 (Classical.not_not.mp k)] at w
    have := zo_inj (k := len t) (j := s') (by omega) (by omega) w
    omega
theorem p_reached {N : Nat} {σ : zS} {len : Nat → Nat} {t : Nat} {fr cut : Int32} (ht : t < 4) (hl : len t ≤ 24) (h90 : σ 90 t = Int32.ofNat (len t)) (rows : ROWS σ len t) : zp (zf_M_reached N σ (Int32.ofNat t) fr cut) (fun r => ∀ s, s < 24 → (bit r s ↔ CLO (EDG σ len t) (fun s => s < 24 ∧ bit fr s) (fun s => bit cut s) s)) := by
  unfold zf_M_reached
  have in18 : ∀ (k6 : zS → Int32 → Int32 → Int32 → Int32 → Option Int32) (v6 : Int32) (Q : Int32 → Prop), (∀ v4 b, (∀ s, s < 24 → bit v6 s → bit v4 s) → (∀ s, s < 24 → bit v4 s → CLO (EDG σ len t) (fun s => s < 24 ∧ bit fr s) (fun s => bit cut s) s) → (b = 0 → ∀ x, x < 24 → bit v4 x → ¬ bit cut x → ∀ y, y < 24 → EDG σ len t x y → bit v4 y) → zp (k6 σ (Int32.ofNat t) cut v4 b) Q) → ∀ (n q : Nat) (v4 : Int32), q ≤ len t → (∀ s, s < 24 → bit v6 s → bit v4 s) → (∀ s, s < 24 → bit v4 s → CLO (EDG σ len t) (fun s => s < 24 ∧ bit fr s) (fun s => bit cut s) s) → (∀ x, x < q → bit v6 x → ¬ bit cut x → ∀ y, y < 24 → EDG σ len t x y → bit v4 y) → zp (zb_M_reached_18 k6 N n σ (Int32.ofNat t) cut v4 v6 (Int32.ofNat q)) Q := by
    intro k6 v6 Q kont n
    induction n with
    | zero => intro _ _ _ _ _ _; exact zp_none
    | succ n ih =>
      intro q v4 hq sub snd cls
      rw [zb_M_reached_18, zo_n (m := t) (by omega), h90]
      unfold zb_M_reached_61 zb_M_reached_79
      refine zp_chk fun _ => zp_ite (fun z => ?_) fun z => ?_
      · have ql : q = len t := by
          have := (zo_le (k := len t) (j := q) (by omega) (by omega)).mp z
          omega
        refine zp_ite (fun e => kont v4 0 sub snd fun _ x hx a b y hy w => ?_) fun _ => kont v4 1 sub snd fun w => absurd w (by decide)
        rw [e] at a
        exact cls x (by rw [ql]; exact w.1) a b y hy w
      · have ql : q < len t := by
          have : ¬ len t ≤ q := fun w => z ((zo_le (by omega) (by omega)).mpr w)
          omega
        have q24 : q < 24 := by omega
        rw [zo_1 (by omega)]
        have b4 := bit_shr (v := v4) q24
        have bc := bit_shr (v := cut) q24
        have skip : ¬ (bit v4 q ∧ ¬ bit cut q) → zp (zb_M_reached_18 k6 N n σ (Int32.ofNat t) cut v4 v6 (Int32.ofNat (q + 1))) Q := fun no => by
          refine ih (q + 1) v4 (by omega) sub snd fun x hx a b y hy e => ?_
          by_cases c : x = q
          · subst c
            exact absurd ⟨sub x q24 a, b⟩ no
          · exact cls x (by omega) a b y hy e
        refine zp_ite (fun no => skip fun w => no (b4.2.mpr w.1)) fun y1 => zp_ite (fun no => skip fun w => no (bc.1.mpr w.2)) fun y2 => ?_
        have yes : bit v4 q ∧ ¬ bit cut q := ⟨b4.2.mp (Classical.not_not.mp y1), bc.1.mp (Classical.not_not.mp y2)⟩
        refine zp_bind (zp_mono (p_behindOf ht ql hl h90 rows) fun r7 hr => ?_)
        refine ih (q + 1) (v4 ||| r7) (by omega) (fun s hs a => (bit_or hs).mpr (Or.inl (sub s hs a))) (fun s hs a => ?_) fun x hx a b y hy e => ?_
        · rcases (bit_or hs).mp a with a | a
          · exact snd s hs a
          · exact (snd q q24 yes.1).nxt yes.2 ((hr s hs).mp a)
        · by_cases c : x = q
          · subst c
            exact (bit_or hy).mpr (Or.inr ((hr y hy).mpr e))
          · exact (bit_or hy).mpr (Or.inl (cls x (by omega) a b y hy e))
  have go6 : ∀ (n : Nat) (v4 v5 : Int32), (∀ s, s < 24 → bit fr s → bit v4 s) → (∀ s, s < 24 → bit v4 s → CLO (EDG σ len t) (fun s => s < 24 ∧ bit fr s) (fun s => bit cut s) s) → (v5 = 0 → ∀ x, x < 24 → bit v4 x → ¬ bit cut x → ∀ y, y < 24 → EDG σ len t x y → bit v4 y) → zp (zb_M_reached_6 N n σ (Int32.ofNat t) cut v4 v5) (fun r => ∀ s, s < 24 → (bit r s ↔ CLO (EDG σ len t) (fun s => s < 24 ∧ bit fr s) (fun s => bit cut s) s)) := by
    intro n
    induction n with
    | zero => intro _ _ _ _ _; exact zp_none
    | succ n ih =>
      intro v4 v5 sub snd cls
      rw [zb_M_reached_6]
      refine zp_ite (fun z => zp_some fun s hs => ⟨snd s hs, fun h => ?_⟩) fun z => ?_
      · exact (h (fun x => x < 24 ∧ bit v4 x) (fun x hx => ⟨hx.1, sub x hx.1 hx.2⟩) fun x y p q e => ⟨by have := e.2.1; omega, cls z x p.1 p.2 q y (by have := e.2.1; omega) e⟩).2
      · exact in18 (zb_M_reached_6 N n) v4 _ (fun v4' b sub' snd' cls' => ih v4' b (fun s hs h => sub' s hs (sub s hs h)) snd' cls') N 0 v4 (by omega) (fun _ _ h => h) snd (fun x hx => absurd hx (Nat.not_lt_zero _))
  exact go6 N fr 1 (fun _ _ h => h) (fun s hs h => CLO.frm ⟨hs, h⟩) (fun w => absurd w (by decide))
