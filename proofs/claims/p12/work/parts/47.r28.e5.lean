-- both answer alike
set_option maxRecDepth 2000
theorem NSP.down {t L d : Nat} {ρ r : zS} {nc nb : Nat → Nat → Nat} {w : Nat → Nat} (hd : 0 < d) (h1 : t < 4 ∧ L ≤ 24 ∧ d ≤ 8) (h2 : ρ 29 8 = Int32.ofNat t ∧ ρ 5 t = Int32.ofNat L ∧ ρ 29 6 = Int32.ofNat d) (h3 : ρ 4 2 = Int32.ofNat (t + 1) ∧ ∀ t', t < t' → t' < 4 → ρ 5 t' = 0) (h4 : NSR t L ρ nc) (b1 : ∀ l, l < 4 → nb 0 l = 0) (b2 : ∀ i, i < d → EQ4 (nb (i + 1)) (INS (ρ 30 i) (ρ 31 i) (nb i))) (b5 : ∀ i, i < d → BLK t L ρ nc i (nb i)) (b7 : ∀ s s', s < L → s' < 24 → (ρ 9 (24 * t + s) = Int32.ofNat s' ∨ ρ 10 (24 * t + s) = Int32.ofNat s') → s' < L) (oth : OTN t ρ nc) (lst : LST t L ρ) (e : ∀ q, q ≠ 29 → r q = ρ q) (r6 : r 29 6 = Int32.ofNat (d - 1)) (r8 : r 29 8 = ρ 29 8) (r7 : r 29 7 = ρ 29 7) (hb : ∀ l, l < 4 → (bit (r 29 11) l ↔ 0 < nb (d - 1) l)) (wy : WYS t L ρ nc (r 29 9) (r 29 10) w) (ew : EQ4 w (nb (d - 1))) (b6 : L = 0 → ∀ l, l < 4 → nb (d - 1) l = 0) : NSP t L (d - 1) r nc nb := by
  refine ⟨⟨h1.1, h1.2.1, by omega⟩, ⟨by rw [r8]; exact h2.1, by rw [e 5 (by decide)]; exact h2.2.1, r6⟩, ⟨by rw [e 4 (by decide)]; exact h3.1, by rw [e 5 (by decide)]; exact h3.2⟩, h4.of fun s hs => ⟨by rw [e 7 (by decide)], by rw [e 8 (by decide)], by rw [e 9 (by decide)], by rw [e 10 (by decide)], by rw [e 11 (by decide)], rfl⟩, ⟨b1, fun i hi => by rw [e 30 (by decide), e 31 (by decide)]; exact b2 i (by omega), hb, wy.ext (Nat.le_refl _) (fun s hs => ⟨by rw [e 7 (by decide)], by rw [e 8 (by decide)], rfl⟩) ew, fun i hi => (b5 i (by omega)).ext (Nat.le_refl _) (fun s hs => ⟨by rw [e 7 (by decide)], by rw [e 8 (by decide)], rfl⟩) ⟨by rw [e 30 (by decide)], by rw [e 31 (by decide)], by rw [e 32 (by decide)], by rw [e 33 (by decide)], by rw [e 34 (by decide)]⟩ fun _ _ => rfl, b6, by rw [e 9 (by decide), e 10 (by decide)]; exact b7⟩, oth.of (fun j _ => by rw [e 5 (by decide)]) (fun j _ => ⟨by rw [e 7 (by decide)], by rw [e 8 (by decide)], by rw [e 9 (by decide)], by rw [e 10 (by decide)], by rw [e 11 (by decide)], rfl⟩), by unfold LST; rw [r7]; exact lst⟩
def NSZ (σ : zS) : Prop := ∃ (m : Nat) (nc : Nat → Nat → Nat), m ≤ 4 ∧ σ 4 2 = Int32.ofNat m ∧ (∀ t, t < 4 → ∃ n, n ≤ 24 ∧ σ 5 t = Int32.ofNat n ∧ NSR t n σ nc) ∧ (∀ t, m ≤ t → t < 4 → σ 5 t = 0)
theorem shl_neg : ∀ s : Fin 24, ¬ bit (zJ_shl 1 (-1)) s.val := by decide +kernel
theorem p_leaveN {N t L d : Nat} {ρ : zS} {nc nb : Nat → Nat → Nat} (h : NSP t L d ρ nc nb) (hd : 0 < d) : zp (zf_Weaver_leave N ρ) (fun r => (1 < d ∧ ∃ L' nc', NSP t L' (d - 1) r nc' nb) ∨ (d = 1 ∧ NSZ r ∧ r 29 6 = 0)) := by
  have hh := h
  obtain ⟨h1, h2, h3, h4, ⟨b1, b2, b3, b4, b5, b6, b7⟩, oth, lst⟩ := h
  have bd := b5 (d - 1) (by omega)
  have ins := b2 (d - 1) (by omega)
  rw [show d - 1 + 1 = d by omega] at ins
  have up : ∀ {σ : zS} {i : Nat} {x : Int32} {q : Nat}, q ≠ 29 → (zx_up σ 29 i x) q = σ q := fun hq => zu_other hq
  unfold zf_Weaver_leave zb_Weaver_leave_166
  rw [h2.2.2, zo_pred hd (by omega), zo_n (m := d - 1) (by omega)]
  refine zp_ite (fun q => ?_) fun _ => zp_ite (fun _ => zp_chk fun _ => zp_chk fun _ => zp_ite (fun s0 => zp_bind (zp_mono (p_X_finish1 h2.1 h1.1 h2.2.1 h1.2.1) fun r c => zp_some (Or.inr ?_))) fun s0 => ?_) fun q => absurd ((zo_le (k := d) (j := 8) (by omega) (by omega)).mpr h1.2.2) q
  · have := (zo_le (k := d) (j := 0) (by omega) (by omega)).mp q
    omega
  ·
    have d1 : d = 1 := by have := bd.2.2.2.mp s0; omega
    obtain ⟨⟨c1, c2⟩, w10, st, ns⟩ := c
    refine ⟨d1, ⟨t + 1, nc, by omega, ?_, fun t' ht' => ?_, fun t' a b => ?_⟩, by rw [zx_up_same, zu_eq, d1]; rfl⟩
    · rw [up (by decide), c1 4 (by decide) (by decide) (by decide)]; exact h3.1
    · by_cases ct : t' = t
      · subst ct
        refine ⟨L, h1.2.1, by rw [up (by decide), c1 5 (by decide) (by decide) (by decide)]; exact h2.2.1, ?_⟩
        obtain ⟨r1, r2, r3, r4⟩ := h4
        have nL : ∀ s', s' < L → ¬ Int32.ofNat L = Int32.ofNat s' := fun s' hs' e => by
          have := zo_inj (by omega) (by omega) e
          omega
        refine ⟨by rw [up (by decide), up (q := 7) (by decide), up (q := 8) (by decide), c1 11 (by decide) (by decide) (by decide), c1 7 (by decide) (by decide) (by decide), c1 8 (by decide) (by decide) (by decide)]; exact r1, r2, fun s s' hs hs' k w => ?_, fun s s' hs hs' w => ?_⟩
        · rw [up (by decide), c1 7 (by decide) (by decide) (by decide)] at k ⊢
          rw [up (by decide), c1 8 (by decide) (by decide) (by decide)]
          rw [up (by decide)] at w
          have v := ns (24 * t' + s) fun z => k z.2.2
          by_cases b : bit (ρ 29 9) s
          · rw [v.1 ⟨by omega, by omega, by rw [show 24 * t' + s - 24 * t' = s by omega]; exact b⟩] at w
            exact absurd w (nL s' hs')
          · rw [v.2 fun z => b (by rw [show 24 * t' + s - 24 * t' = s by omega] at z; exact z.2.2)] at w
            exact r3 s s' hs hs' k w
        · rw [up (by decide)] at w
          by_cases b : bit (ρ 29 10) s
          · rw [(w10 _).1 ⟨by omega, by omega, by rw [show 24 * t' + s - 24 * t' = s by omega]; exact b⟩] at w
            exact absurd w (nL s' hs')
          · rw [(w10 _).2 fun z => b (by rw [show 24 * t' + s - 24 * t' = s by omega] at z; exact z.2.2)] at w
            exact r4 s s' hs hs' w
      · obtain ⟨n, n24, e5, nr⟩ := oth t' ht' ct
        refine ⟨n, n24, by rw [up (by decide), c1 5 (by decide) (by decide) (by decide)]; exact e5, nr.of fun s hs => ?_⟩
        have out : ∀ u : Nat, u = 24 * t' + s → ¬ (24 * t ≤ u ∧ u < 24 * t + 24) := fun u hu => by omega
        have o := out _ rfl
        refine ⟨by rw [up (by decide), c1 7 (by decide) (by decide) (by decide)], by rw [up (by decide), c1 8 (by decide) (by decide) (by decide)], ?_, ?_, by rw [up (by decide), c1 11 (by decide) (by decide) (by decide)], rfl⟩
        · rw [up (by decide)]
          exact (ns _ fun z => o ⟨z.1, by omega⟩).2 fun z => o ⟨z.1, z.2.1⟩
        · rw [up (by decide)]
          exact (w10 _).2 fun z => o ⟨z.1, z.2.1⟩
    · rw [up (by decide), c1 5 (by decide) (by decide) (by decide)]
      exact h3.2 t' (by omega) b
  have d2 : 1 < d := by
    by_cases c : d = 1
    · exact absurd (bd.2.2.2.mpr (by omega)) s0
    · omega
  have mid : ¬ ρ 30 (d - 1) = 1 → EQ4 (nb d) (nb (d - 1)) := fun k => ins.tr (INS.id k)
  have mark : (ρ 30 (d - 1) = 3 ∨ (¬ ρ 30 (d - 1) = 0 ∧ ¬ ρ 30 (d - 1) = 1 ∧ ¬ ρ 30 (d - 1) = 2 ∧ ¬ ρ 30 (d - 1) = 3 ∧ ¬ ρ 30 (d - 1) = 4)) → ∀ s, s < 24 → bit (zJ_shl 1 (ρ 31 (d - 1))) s → s < L ∧ EQ4 (nc (24 * t + s)) (nb (d - 1)) := fun k s hs b => by
    rcases bd.2.1 k with e | ⟨z, z1, z2, z3, z4⟩
    · rw [e] at b
      exact absurd b (shl_neg ⟨s, hs⟩)
    · rw [z3, bit_shl z2 hs] at b
      rw [b]
      exact ⟨z1, z4⟩
  have hb : ¬ ρ 30 (d - 1) = 1 → ∀ l, l < 4 → (bit (ρ 29 11) l ↔ 0 < nb (d - 1) l) := fun k l hl => by rw [b3 l hl, mid k l hl]
  have b6' : ¬ ρ 30 (d - 1) = 1 → L = 0 → ∀ l, l < 4 → nb (d - 1) l = 0 := fun k z l hl => by rw [← mid k l hl]; exact b6 z l hl
  refine zp_ite (fun s1 => ?_) fun s1 => zp_ite (fun s2 => zp_some (Or.inl ⟨d2, L, nc, ?_⟩)) fun s2 => zp_ite (fun s3 => zp_some (Or.inl ⟨d2, L, nc, ?_⟩)) fun s3 => zp_ite (fun s4 => zp_chk fun _ => zp_chk fun _ => zp_some (Or.inl ⟨d2, L, nc, ?_⟩)) fun s4 => ?_
  ·
    refine zp_bind (zp_mono (hh.emit fun _ l hl e => by have k := ins l hl; unfold INS at k; rw [if_pos ⟨s1, e⟩] at k; omega) fun r ⟨L', nc', q, _, g⟩ => zp_chk fun _ => zp_some (Or.inl ⟨d2, L', nc', ?_⟩))
    obtain ⟨q1, q2, q3, q4, ⟨c1, c2, c3, c4, c5, c6, c7⟩, q6, q7⟩ := q
    have e30 : r 30 (d - 1) = 1 := by rw [g 30 (by decide)]; exact s1
    have back : EQ4 (OUTN 4 (ρ 31 (d - 1)) (nb d)) (nb (d - 1)) := fun l hl => by
      have k := ins l hl
      unfold INS at k
      unfold OUTN
      rw [if_neg fun w => absurd w.1 (by decide)]
      by_cases c : ρ 31 (d - 1) = Int32.ofNat l
      · rw [if_pos ⟨s1, c⟩] at k
        rw [if_pos ⟨rfl, c⟩]
        omega
      · rw [if_neg fun w => c w.2] at k
        rw [if_neg fun w => c w.2]
        exact k
    refine NSP.down hd q1 q2 q3 q4 c1 c2 c5 c7 q6 q7 (fun q hq => by rw [zu_other hq, zu_other hq]) (by rw [zx_up_same, zu_eq]) (by rw [zx_up_same, zu_ne (by decide), zx_up_same, zu_ne (by decide)]) (by rw [zx_up_same, zu_ne (by decide), zx_up_same, zu_ne (by decide)]) (fun l hl => ?_) (w := OUTN 4 (ρ 31 (d - 1)) (nb d)) ?_ back fun z => by omega
    · rw [zx_up_same, zu_ne (by decide), zx_up_same, zu_eq]
      exact (c5 (d - 1) (by omega)).1 e30 l hl
    · rw [zx_up_same, zu_ne (by decide), zx_up_same, zu_ne (by decide), zu_ne (by decide), zu_ne (by decide)]
      exact c4
  ·
    refine NSP.down hd h1 h2 h3 h4 b1 b2 b5 b7 oth lst (fun q hq => by rw [zu_other hq, zu_other hq]) (by rw [zx_up_same, zu_eq]) (by rw [zx_up_same, zu_ne (by decide), zx_up_same, zu_ne (by decide)]) (by rw [zx_up_same, zu_ne (by decide), zx_up_same, zu_ne (by decide)]) (fun l hl => ?_) (w := nb d) ?_ (mid s1) (b6' s1)
    · rw [zx_up_same, zu_ne (by decide), zx_up_same, zu_ne (by decide)]
      exact hb s1 l hl
    · rw [zx_up_same, zu_ne (by decide), zx_up_same, zu_ne (by decide), zu_ne (by decide), zu_ne (by decide)]
      exact b4
  ·
    refine NSP.down hd h1 h2 h3 h4 b1 b2 b5 b7 oth lst (fun q hq => by rw [zu_other hq, zu_other hq]) (by rw [zx_up_same, zu_eq]) (by rw [zx_up_same, zu_ne (by decide), zx_up_same, zu_ne (by decide)]) (by rw [zx_up_same, zu_ne (by decide), zx_up_same, zu_ne (by decide)]) (fun l hl => ?_) (w := nb (d - 1)) ?_ (fun _ _ => rfl) (b6' s1)
    · rw [zx_up_same, zu_ne (by decide), zx_up_same, zu_ne (by decide)]
      exact hb s1 l hl
    · have e9 : (zx_up (zx_up ρ 29 10 ((ρ 29 10) ||| (zJ_shl 1 (ρ 31 (d - 1))))) 29 6 (Int32.ofNat (d - 1))) 29 9 = ρ 29 9 := by rw [zx_up_same, zu_ne (by decide), zx_up_same, zu_ne (by decide)]
      have e10 : (zx_up (zx_up ρ 29 10 ((ρ 29 10) ||| (zJ_shl 1 (ρ 31 (d - 1))))) 29 6 (Int32.ofNat (d - 1))) 29 10 = (ρ 29 10) ||| (zJ_shl 1 (ρ 31 (d - 1))) := by rw [zx_up_same, zu_ne (by decide), zx_up_same, zu_eq]
      rw [e9, e10]
      have b4' := b4.ext (r := ρ) (nc' := nc) (Nat.le_refl _) (fun _ _ => ⟨rfl, rfl, rfl⟩) (mid s1)
      refine ⟨b4'.1, fun s hs b => ?_⟩
      rcases (bit_or hs).mp b with b | b
      · exact b4'.2 s hs b
      · exact mark (Or.inl s3) s hs b
  ·
    refine NSP.down hd h1 h2 h3 h4 b1 b2 b5 b7 oth lst (fun q hq => by rw [zu_other hq, zu_other hq, zu_other hq]) (by rw [zx_up_same, zu_eq]) (by rw [zx_up_same, zu_ne (by decide), zx_up_same, zu_ne (by decide), zx_up_same, zu_ne (by decide)]) (by rw [zx_up_same, zu_ne (by decide), zx_up_same, zu_ne (by decide), zx_up_same, zu_ne (by decide)]) (fun l hl => ?_) (w := nb (d - 1)) ?_ (fun _ _ => rfl) (b6' s1)
    · rw [zx_up_same, zu_ne (by decide), zx_up_same, zu_ne (by decide), zx_up_same, zu_ne (by decide)]
      exact hb s1 l hl
    · have e9 : (zx_up (zx_up (zx_up ρ 29 9 ((ρ 29 9) ||| (ρ 32 (d - 1)))) 29 10 ((ρ 29 10) ||| (ρ 33 (d - 1)))) 29 6 (Int32.ofNat (d - 1))) 29 9 = (ρ 29 9) ||| (ρ 32 (d - 1)) := by rw [zx_up_same, zu_ne (by decide), zx_up_same, zu_ne (by decide), zx_up_same, zu_eq]
      have e10 : (zx_up (zx_up (zx_up ρ 29 9 ((ρ 29 9) ||| (ρ 32 (d - 1)))) 29 10 ((ρ 29 10) ||| (ρ 33 (d - 1)))) 29 6 (Int32.ofNat (d - 1))) 29 10 = (ρ 29 10) ||| (ρ 33 (d - 1)) := by rw [zx_up_same, zu_ne (by decide), zx_up_same, zu_eq]
      rw [e9, e10]
      have b4' := b4.ext (r := ρ) (nc' := nc) (Nat.le_refl _) (fun _ _ => ⟨rfl, rfl, rfl⟩) (mid s1)
      have sv := bd.2.2.1 s4
      refine ⟨fun s hs b => ?_, fun s hs b => ?_⟩
      · exact ((bit_or hs).mp b).elim (b4'.1 s hs) (sv.1 s hs)
      · exact ((bit_or hs).mp b).elim (b4'.2 s hs) (sv.2 s hs)
  ·
    have k5 : ρ 30 (d - 1) = 3 ∨ (¬ ρ 30 (d - 1) = 0 ∧ ¬ ρ 30 (d - 1) = 1 ∧ ¬ ρ 30 (d - 1) = 2 ∧ ¬ ρ 30 (d - 1) = 3 ∧ ¬ ρ 30 (d - 1) = 4) := Or.inr ⟨s0, s1, s2, s3, s4⟩
    refine zp_bind (zp_mono (p_X_closeOpen1 h2.1 h1.1) fun r co => zp_some (Or.inl ⟨d2, L, nc, ?_⟩))
    have sh := hh.shut co fun s' hs' w => by
      rcases bd.2.1 k5 with e | ⟨z, z1, z2, z3, z4⟩
      · rw [e] at w
        exact absurd w.symm (zo_ne (by omega))
      · have ez := zo_inj (by omega) (by omega) (z3.symm.trans w)
        rw [← ez]
        exact ⟨z1, z4.tr (mid s1).sy⟩
    have z9 : r 29 9 = 0 := co.2.1
    have i11 : r 29 11 = ρ 29 11 := co.1.2 11 (by decide) (by decide)
    have i31 : ∀ s, s < L → True := fun _ _ => trivial
    obtain ⟨q1, q2, q3, q4, ⟨c1, c2, c3, c4, c5, c6, c7⟩, q6, q7⟩ := sh
    refine NSP.down hd q1 q2 q3 q4 c1 c2 c5 c7 q6 q7 (fun q hq => by rw [zu_other hq, zu_other hq]) (by rw [zx_up_same, zu_eq]) (by rw [zx_up_same, zu_ne (by decide), zx_up_same, zu_ne (by decide)]) (by rw [zx_up_same, zu_ne (by decide), zx_up_same, zu_ne (by decide)]) (fun l hl => ?_) (w := nb (d - 1)) ?_ (fun _ _ => rfl) (b6' s1)
    · rw [zx_up_same, zu_ne (by decide), zx_up_same, zu_ne (by decide), i11]
      exact hb s1 l hl
    · have e9 : (zx_up (zx_up r 29 10 (zJ_shl 1 (ρ 31 (d - 1)))) 29 6 (Int32.ofNat (d - 1))) 29 9 = 0 := by rw [zx_up_same, zu_ne (by decide), zx_up_same, zu_ne (by decide)]; exact z9
      have e10 : (zx_up (zx_up r 29 10 (zJ_shl 1 (ρ 31 (d - 1)))) 29 6 (Int32.ofNat (d - 1))) 29 10 = zJ_shl 1 (ρ 31 (d - 1)) := by rw [zx_up_same, zu_ne (by decide), zx_up_same, zu_eq]
      rw [e9, e10]
      exact ⟨fun s hs b => absurd b (bit_zero hs), fun s hs b => mark k5 s hs b⟩
theorem p_turnN {t L d : Nat} {ρ : zS} {nc nb : Nat → Nat → Nat} (h : NSP t L d ρ nc nb) (hd : 0 < d) (k3 : ρ 30 (d - 1) = 3) : zp (zf_Weaver_turnToElse ρ) (fun r => NSP t L d r nc nb) := by
  obtain ⟨h1, h2, h3, h4, ⟨b1, b2, b3, b4, b5, b6, b7⟩, oth, lst⟩ := h
  have bd := b5 (d - 1) (by omega)
  have ins := b2 (d - 1) (by omega)
  rw [show d - 1 + 1 = d by omega] at ins
  have n1 : ¬ ρ 30 (d - 1) = 1 := by rw [k3]; decide
  have mid : EQ4 (nb d) (nb (d - 1)) := ins.tr (INS.id n1)
  unfold zf_Weaver_turnToElse
  rw [h2.2.2, zo_pred hd (by omega), zo_n (m := d - 1) (by omega)]
  refine zp_ite (fun q => ?_) fun _ => zp_ite (fun q => ?_) fun _ => zp_chk fun _ => zp_chk fun _ => zp_chk fun _ => zp_chk fun _ => zp_some ?_
  · have := (zo_le (k := d) (j := 0) (by omega) (by omega)).mp q
    omega
  · have := (zo_lt (k := 8) (j := d) (by omega) (by omega)).mp q
    omega
  · generalize hS : (zx_up (zx_up (zx_up (zx_up (zx_up ρ 30 (d - 1) 4) 32 (d - 1) (ρ 29 9)) 33 (d - 1) (ρ 29 10)) 29 9 0) 29 10 (zJ_shl 1 (ρ 31 (d - 1)))) = S
    have e : ∀ q, q ≠ 29 → q ≠ 30 → q ≠ 32 → q ≠ 33 → S q = ρ q := fun q a b c d => by rw [← hS, zu_other a, zu_other a, zu_other d, zu_other c, zu_other b]
    have f29 : ∀ i, i ≠ 9 → i ≠ 10 → S 29 i = ρ 29 i := fun i a b => by rw [← hS, zx_up_same, zu_ne b, zx_up_same, zu_ne a, zu_other (by decide), zu_other (by decide), zu_other (by decide)]
    have s9 : S 29 9 = 0 := by rw [← hS, zx_up_same, zu_ne (by decide), zx_up_same, zu_eq]
    have s10 : S 29 10 = zJ_shl 1 (ρ 31 (d - 1)) := by rw [← hS, zx_up_same, zu_eq]
    have s30 : S 30 (d - 1) = 4 ∧ ∀ i, i ≠ d - 1 → S 30 i = ρ 30 i := ⟨by rw [← hS, zu_other (by decide), zu_other (by decide), zu_other (by decide), zu_other (by decide), zx_up_same, zu_eq], fun i hi => by rw [← hS, zu_other (by decide), zu_other (by decide), zu_other (by decide), zu_other (by decide), zx_up_same, zu_ne hi]⟩
    have s32 : S 32 (d - 1) = ρ 29 9 ∧ ∀ i, i ≠ d - 1 → S 32 i = ρ 32 i := ⟨by rw [← hS, zu_other (by decide), zu_other (by decide), zu_other (by decide), zx_up_same, zu_eq], fun i hi => by rw [← hS, zu_other (by decide), zu_other (by decide), zu_other (by decide), zx_up_same, zu_ne hi, zu_other (by decide)]⟩
    have s33 : S 33 (d - 1) = ρ 29 10 ∧ ∀ i, i ≠ d - 1 → S 33 i = ρ 33 i := ⟨by rw [← hS, zu_other (by decide), zu_other (by decide), zx_up_same, zu_eq], fun i hi => by rw [← hS, zu_other (by decide), zu_other (by decide), zx_up_same, zu_ne hi, zu_other (by decide), zu_other (by decide)]⟩
    clear hS
    have g : ∀ q, q < 29 → S q = ρ q := fun q hq => e q (by omega) (by omega) (by omega) (by omega)
    refine ⟨h1, ⟨by rw [f29 8 (by decide) (by decide)]; exact h2.1, by rw [g 5 (by decide)]; exact h2.2.1, by rw [f29 6 (by decide) (by decide)]; exact h2.2.2⟩, ⟨by rw [g 4 (by decide)]; exact h3.1, by rw [g 5 (by decide)]; exact h3.2⟩, h4.of fun s hs => ⟨by rw [g 7 (by decide)], by rw [g 8 (by decide)], by rw [g 9 (by decide)], by rw [g 10 (by decide)], by rw [g 11 (by decide)], rfl⟩, ⟨b1, fun i hi => ?_, by rw [f29 11 (by decide) (by decide)]; exact b3, ?_, fun i hi => ?_, b6, by rw [g 9 (by decide), g 10 (by decide)]; exact b7⟩, oth.of (fun j _ => by rw [g 5 (by decide)]) (fun j _ => ⟨by rw [g 7 (by decide)], by rw [g 8 (by decide)], by rw [g 9 (by decide)], by rw [g 10 (by decide)], by rw [g 11 (by decide)], rfl⟩), by unfold LST; rw [f29 7 (by decide) (by decide)]; exact lst⟩
    · rw [e 31 (by decide) (by decide) (by decide) (by decide)]
      by_cases c : i = d - 1
      · rw [c, s30.1, show d - 1 + 1 = d by omega]
        exact mid.tr (INS.id (by decide)).sy
      · rw [s30.2 i c]
        exact b2 i hi
    · rw [s9, s10]
      refine ⟨fun s hs b => absurd b (bit_zero hs), fun s hs b => ?_⟩
      rcases bd.2.1 (Or.inl k3) with q | ⟨z, z1, z2, z3, z4⟩
      · rw [q] at b
        exact absurd b (shl_neg ⟨s, hs⟩)
      · rw [z3, bit_shl z2 hs] at b
        rw [b]
        exact ⟨z1, z4.tr mid.sy⟩
    · have row : ∀ s, s < L → S 7 (24 * t + s) = ρ 7 (24 * t + s) ∧ S 8 (24 * t + s) = ρ 8 (24 * t + s) ∧ nc (24 * t + s) = nc (24 * t + s) := fun s hs => ⟨by rw [g 7 (by decide)], by rw [g 8 (by decide)], rfl⟩
      by_cases c : i = d - 1
      · rw [c]
        unfold BLK
        rw [s30.1, s32.1, s33.1]
        refine ⟨fun w => absurd w (by decide), fun w => absurd w (by decide), fun _ => b4.ext (Nat.le_refl _) row mid, ⟨fun w => absurd w (by decide), fun w => ?_⟩⟩
        have := bd.2.2.2.mpr w
        rw [k3] at this
        exact absurd this (by decide)
      · exact (b5 i hi).ext (Nat.le_refl _) row ⟨s30.2 i c, by rw [e 31 (by decide) (by decide) (by decide) (by decide)], s32.2 i c, s33.2 i c, by rw [e 34 (by decide) (by decide) (by decide) (by decide)]⟩ fun _ _ => rfl
