-- both answer alike
set_option maxRecDepth 2000
theorem p_X_findThreads1 {N : Nat} {c : Nat → Nat} {ws : Nat → Nat → Int64} {len : Nat → Nat} {ρ : zS} {τ : zT} {μ : zS} (ns : NX3 c ws ρ τ) (pk : PKW c len 0 ρ μ) (h17 : ρ 17 6 = 0) : zp (zb_Reader_readText_93 N ρ τ) (fun r => r.1 17 6 = 0 → (∀ q, SJ c len μ q → ∃ k, k < c 2 ∧ ws 2 k = τ 23 q ∧ r.1 8 q = Int32.ofNat k) ∧ (∀ q, ¬ SJ c len μ q → r.1 8 q = ρ 8 q)) := by
  have c24 : c 2 ≤ 4 := (ns.1 2 (by decide)).1
  unfold zb_Reader_readText_93
  have go : ∀ (n q : Nat) (r : zS), q ≤ 96 → FT0 ρ r → (∀ q', q' < q → SJ c len μ q' → ∃ k, k < c 2 ∧ ws 2 k = τ 23 q' ∧ r 8 q' = Int32.ofNat k) → (∀ q', (q ≤ q' ∨ ¬ SJ c len μ q') → r 8 q' = ρ 8 q') → zp (zb_Reader_readText_95 N n r τ (Int32.ofNat q)) (fun r => r.1 17 6 = 0 → (∀ q, SJ c len μ q → ∃ k, k < c 2 ∧ ws 2 k = τ 23 q ∧ r.1 8 q = Int32.ofNat k) ∧ (∀ q, ¬ SJ c len μ q → r.1 8 q = ρ 8 q)) := by
    intro n
    induction n with
    | zero => intro _ _ _ _ _ _; exact zp_none
    | succ n ih =>
      intro q r hq fr y1 y2
      have e17 : r 17 6 = 0 := by rw [fr 17 (by decide) (by decide)]; exact h17
      rw [zb_Reader_readText_95, e17]
      refine zp_ite (fun z => zp_some fun _ => ⟨fun q' sj => ?_, fun q' ns => y2 q' (Or.inr ns)⟩) fun z => zp_ite (fun y => absurd rfl y) fun _ => ?_
      · have : 96 ≤ q := (zo_le (k := 96) (j := q) (by omega) (by omega)).mp z
        refine y1 q' ?_ sj
        obtain ⟨⟨t, s, a1, a2, a3⟩, _⟩ := sj
        have := (pk.1 t a1).1
        omega
      · have q96 : q < 96 := by
          have : ¬ 96 ≤ q := fun x => z ((zo_le (k := 96) (j := q) (by omega) (by omega)).mpr x)
          omega
        have dm := z_dm96 ⟨q, q96⟩
        dsimp only at dm
        unfold zf_Reader_findThread
        rw [dm.1, dm.2]
        have same : ¬ SJ c len μ q → zp (zb_Reader_readText_95 N n r τ (Int32.ofNat q + 1)) (fun r => r.1 17 6 = 0 → (∀ q, SJ c len μ q → ∃ k, k < c 2 ∧ ws 2 k = τ 23 q ∧ r.1 8 q = Int32.ofNat k) ∧ (∀ q, ¬ SJ c len μ q → r.1 8 q = ρ 8 q)) := by
          intro nsj
          rw [zo_1 (by omega)]
          refine ih (q + 1) r (by omega) fr (fun q' hq' sj => ?_) (fun q' h => y2 q' (by rcases h with h | h; exact Or.inl (by omega); exact Or.inr h))
          by_cases e : q' = q
          · rw [e] at sj; exact absurd sj nsj
          · exact y1 q' (by omega) sj
        refine zp_bind (zp_bind (zp_mono (p_X_slotOf2 (by omega) (by omega)) fun r1 h1 => ?_))
        rw [fr 5 (by decide) (by decide)] at h1
        rcases h1 with ⟨lt, e1⟩ | ⟨nl, e1⟩
        · have eq : 24 * (q / 24) + q % 24 = q := by omega
          rw [eq] at e1
          subst e1
          rw [zo_n (by omega), fr 7 (by decide) (by decide)]
          have tc : q / 24 < c 2 ∧ q % 24 < len (q / 24) := by
            by_cases x : q / 24 < c 2
            · obtain ⟨b1, b2, _⟩ := pk.1 (q / 24) x
              rw [b2] at lt
              exact ⟨x, (zo_lt (by omega) (by omega)).mp lt⟩
            · rw [pk.2.1 (q / 24) (by omega) (by omega)] at lt
              have := (zo_lt (k := q % 24) (j := 0) (by omega) (by omega)).mp lt
              omega
          have kd : ρ 7 q = μ 92 q := by
            have := pk.2.2.2.2.2.2 (q / 24) (q % 24) tc.1 tc.2
            rw [eq] at this
            exact this
          have f45 : (ρ 7 q = 10 ∨ ρ 7 q = 11) → zp (zb_Reader_findThread_45 N r τ (Int32.ofNat q)) (fun r8 => zp (zb_Reader_readText_95 N n r8 τ (Int32.ofNat q + 1)) (fun r => r.1 17 6 = 0 → (∀ q, SJ c len μ q → ∃ k, k < c 2 ∧ ws 2 k = τ 23 q ∧ r.1 8 q = Int32.ofNat k) ∧ (∀ q, ¬ SJ c len μ q → r.1 8 q = ρ 8 q))) := by
            intro hk
            have ns' : NX3 c ws r τ := ns.of (fun s _ => by rw [fr 4 (by decide) (by decide)]) (by rw [fr 18 (by decide) (by decide)]) (fr 20 (by decide) (by decide)) (fr 21 (by decide) (by decide)) rfl
            unfold zb_Reader_findThread_45
            rw [zo_n (by omega)]
            refine zp_chk fun _ => zp_bind (zp_mono (p_X_numberOf3 (s := 2) ns' (by decide)) fun r6 h6 => zp_ite (fun x => ?_) fun x => zp_chk fun _ => zp_some ?_)
            · rcases h6 with ⟨e6, _⟩ | ⟨k, k1, k2, k3, _⟩
              · exact absurd e6 x
              · subst k2
                have st : zp (zf_Program_setThread r (Int32.ofNat q) (Int32.ofNat k)) (fun r8 => FT0 ρ r8 ∧ r8 8 q = Int32.ofNat k ∧ ∀ j, j ≠ q → r8 8 j = r 8 j) := by
                  unfold zf_Program_setThread
                  rw [zo_n (m := q) (by omega)]
                  refine zp_ite (fun w => ?_) fun _ => zp_ite (fun w => ?_) fun _ => zp_ite (fun w => ?_) fun _ => zp_ite (fun w => ?_) fun _ => zp_chk fun _ => zp_chk fun _ => zp_ite (fun _ => zp_some ⟨fun p a b => ?_, ?_, fun j hj => ?_⟩) fun _ => zp_chk fun _ => zp_chk fun _ => zp_some ⟨fun p a b => ?_, ?_, fun j hj => ?_⟩
                  · have := (zo_lt (k := q) (j := 0) (by omega) (by omega)).mp w
                    omega
                  · have := (zo_le (k := 96) (j := q) (by omega) (by omega)).mp w
                    omega
                  · have := (zo_lt (k := k) (j := 0) (by omega) (by omega)).mp w
                    omega
                  · have := (zo_le (k := 4) (j := k) (by omega) (by omega)).mp w
                    omega
                  · rw [zu_other b]; exact fr p a b
                  · rw [zx_up_same, zu_eq]
                  · rw [zx_up_same, zu_ne hj]
                  · rw [zu_other a, zu_other b]; exact fr p a b
                  · rw [zu_other (by decide), zx_up_same, zu_eq]
                  · rw [zu_other (by decide), zx_up_same, zu_ne hj]
                refine zp_bind (zp_mono st ?_)
                rintro r8 ⟨f8, e8, o8⟩
                refine zp_some ?_
                rw [zo_1 (by omega)]
                refine ih (q + 1) r8 (by omega) f8 (fun q' hq' sj => ?_) (fun q' h => ?_)
                · by_cases e : q' = q
                  · rw [e]; exact ⟨k, k1, k3, e8⟩
                  · rw [o8 q' e]; exact y1 q' (by omega) sj
                · have ne : q' ≠ q := fun e => by
                    rcases h with h | h
                    · omega
                    · rw [e] at h
                      exact h ⟨⟨q / 24, q % 24, tc.1, tc.2, eq.symm⟩, by rw [← kd]; exact hk⟩
                  rw [o8 q' ne]
                  exact y2 q' (by rcases h with h | h; exact Or.inl (by omega); exact Or.inr h)
            · have fl : ¬ (zx_up (zx_up r 17 6 5) 17 7 (r 24 q)) 17 6 = 0 := by
                rw [zx_up_same, zu_ne (by decide), zx_up_same, zu_eq]; decide
              cases n with
              | zero => exact zp_none
              | succ n =>
                rw [zb_Reader_readText_95]
                exact zp_ite (fun _ => zp_some fun w => absurd w fl) fun _ => zp_ite (fun _ => zp_some fun w => absurd w fl) fun y => absurd fl y
          refine zp_chk fun _ => zp_ite (fun x => ?_) fun _ => zp_ite (fun k10 => f45 (Or.inl k10)) fun k10 => zp_ite (fun k11 => f45 (Or.inr k11)) fun k11 => zp_some (same fun sj => ?_)
          · have := (zo_le (k := 96) (j := q) (by omega) (by omega)).mp x
            omega
          · have := sj.2
            rw [← kd] at this
            exact absurd this (fun x => x.elim k10 k11)
        · subst e1
          refine zp_chk fun _ => zp_ite (fun _ => zp_some (same fun sj => nl ?_)) fun x => absurd (by decide) x
          obtain ⟨⟨t, s, a1, a2, a3⟩, _⟩ := sj
          obtain ⟨b1, b2, _⟩ := pk.1 t a1
          have et : q / 24 = t := by omega
          have es : q % 24 = s := by omega
          rw [et, es, b2]
          exact (zo_lt (by omega) (by omega)).mpr a2
  exact go N 0 ρ (Nat.zero_le _) (fun _ _ _ => rfl) (fun q' h => absurd h (Nat.not_lt_zero _)) (fun _ _ => rfl)
theorem p_M_fl167W {k2 : zS → Int32 → Option zS} {N l : Nat} {c len : Nat → Nat} {v2 : Int32} {Q : zS → Prop} {μ : zS} (h17 : μ 82 17 = Int32.ofNat (c 2)) (c4 : c 2 ≤ 4) (h90 : ∀ t, t < c 2 → len t ≤ 24 ∧ μ 90 t = Int32.ofNat (len t)) (l128 : l ≤ 128) (hk : ∀ ν, (∀ q, q ≠ 93 → ν q = μ q) → (∀ q, ((SJ c len μ q ∧ μ 93 q = Int32.ofNat (4 + l)) → ν 93 q = v2) ∧ (¬ (SJ c len μ q ∧ μ 93 q = Int32.ofNat (4 + l)) → ν 93 q = μ 93 q)) → zp (k2 ν (Int32.ofNat l + 1)) Q) : zp (zb_M_findLaters_167 k2 N μ (Int32.ofNat l) v2) Q := by
  have e4 : 4 + Int32.ofNat l = Int32.ofNat (4 + l) := zo_plus (i := 4) rfl (by omega)
  have go180 : ∀ (k169 : zS → Int32 → Int32 → Int32 → Option zS) (t : Nat), t < c 2 → (∀ ν, ((∀ q, q ≠ 93 → ν q = μ q) ∧ (∀ q, ((SJ c len μ q ∧ μ 93 q = Int32.ofNat (4 + l) ∧ q < 24 * (t + 1)) → ν 93 q = v2) ∧ (¬ (SJ c len μ q ∧ μ 93 q = Int32.ofNat (4 + l) ∧ q < 24 * (t + 1)) → ν 93 q = μ 93 q))) → zp (k169 ν (Int32.ofNat l) v2 (Int32.ofNat (t + 1))) Q) → ∀ (n s : Nat) (ν : zS), s ≤ len t → ((∀ q, q ≠ 93 → ν q = μ q) ∧ (∀ q, ((SJ c len μ q ∧ μ 93 q = Int32.ofNat (4 + l) ∧ q < 24 * t + s) → ν 93 q = v2) ∧ (¬ (SJ c len μ q ∧ μ 93 q = Int32.ofNat (4 + l) ∧ q < 24 * t + s) → ν 93 q = μ 93 q))) → zp (zb_M_findLaters_180 k169 N n ν (Int32.ofNat l) v2 (Int32.ofNat t) (Int32.ofNat s)) Q := by
    intro k169 t htc h169 n
    have l24 := (h90 t htc).1
    induction n with
    | zero => intro _ _ _ _; exact zp_none
    | succ n ih =>
      intro s ν hs inv
      rw [zb_M_findLaters_180, zo_n (m := t) (by omega), inv.1 90 (by decide), (h90 t htc).2, inv.1 92 (by decide)]
      refine zp_chk fun _ => zp_ite (fun q => ?_) fun q => ?_
      · have es : s = len t := by
          have := (zo_le (by omega) (by omega)).mp q
          omega
        rw [zo_1 (by omega)]
        refine h169 ν ⟨inv.1, fun q => ⟨fun w => (inv.2 q).1 ⟨w.1, w.2.1, ?_⟩, fun w => (inv.2 q).2 fun y => w ⟨y.1, y.2.1, by omega⟩⟩⟩
        obtain ⟨⟨⟨t', s', a1, a2, a3⟩, _⟩, _, w3⟩ := w
        have := (h90 t' a1).1
        by_cases e : t' = t
        · rw [e] at a2 a3; omega
        · omega
      · have lt : s < len t := by
          have : ¬ len t ≤ s := fun w => q ((zo_le (by omega) (by omega)).mpr w)
          omega
        have sl := z24 (t := t) (L := s) (by omega) (by omega)
        rw [sl.2.2.2, zo_n (m := 24 * t + s) (by omega)]
        have B : ∀ ν', ((∀ q, q ≠ 93 → ν' q = μ q) ∧ (∀ q, ((SJ c len μ q ∧ μ 93 q = Int32.ofNat (4 + l) ∧ q < 24 * t + (s + 1)) → ν' 93 q = v2) ∧ (¬ (SJ c len μ q ∧ μ 93 q = Int32.ofNat (4 + l) ∧ q < 24 * t + (s + 1)) → ν' 93 q = μ 93 q))) → zp (zb_M_findLaters_245 (zb_M_findLaters_180 k169 N n) N ν' (Int32.ofNat l) v2 (Int32.ofNat t) (Int32.ofNat s)) Q := fun ν' h' => by
          unfold zb_M_findLaters_245
          rw [zo_1 (by omega)]
          exact ih (s + 1) ν' (by omega) h'
        have old : ν 93 (24 * t + s) = μ 93 (24 * t + s) := (inv.2 _).2 fun w => by omega
        have skip : ¬ (SJ c len μ (24 * t + s) ∧ μ 93 (24 * t + s) = Int32.ofNat (4 + l)) → ((∀ q, q ≠ 93 → ν q = μ q) ∧ (∀ q, ((SJ c len μ q ∧ μ 93 q = Int32.ofNat (4 + l) ∧ q < 24 * t + (s + 1)) → ν 93 q = v2) ∧ (¬ (SJ c len μ q ∧ μ 93 q = Int32.ofNat (4 + l) ∧ q < 24 * t + (s + 1)) → ν 93 q = μ 93 q))) := by
          intro no
          refine ⟨inv.1, fun q => ⟨fun w => (inv.2 q).1 ⟨w.1, w.2.1, ?_⟩, fun w => (inv.2 q).2 fun y => w ⟨y.1, y.2.1, by omega⟩⟩⟩
          by_cases e : q = 24 * t + s
          · rw [e] at w; exact absurd ⟨w.1, w.2.1⟩ no
          · omega
        have C : (μ 92 (24 * t + s) = 10 ∨ μ 92 (24 * t + s) = 11) → zp (zb_M_findLaters_224 (zb_M_findLaters_180 k169 N n) N ν (Int32.ofNat l) v2 (Int32.ofNat t) (Int32.ofNat s) (Int32.ofNat (24 * t + s))) Q := by
          intro hkd
          have sj : SJ c len μ (24 * t + s) := ⟨⟨t, s, htc, lt, rfl⟩, hkd⟩
          unfold zb_M_findLaters_224
          rw [zo_n (by omega), old, e4]
          refine zp_chk fun _ => zp_ite (fun ne => B ν (skip fun w => ne w.2)) fun eq => zp_chk fun _ => B _ ⟨fun q hq => by rw [zu_other hq]; exact inv.1 q hq, fun q => ?_⟩
          rw [zx_up_same]
          by_cases e : q = 24 * t + s
          · rw [e, zu_eq]
            exact ⟨fun _ => rfl, fun w => absurd ⟨sj, Classical.not_not.mp eq, by omega⟩ w⟩
          · rw [zu_ne e]
            exact ⟨fun w => (inv.2 q).1 ⟨w.1, w.2.1, by omega⟩, fun w => (inv.2 q).2 fun y => w ⟨y.1, y.2.1, by omega⟩⟩
        refine zp_chk fun _ => zp_ite (fun k => C (Or.inl k)) fun k10 => zp_chk fun _ => zp_ite (fun k11 => B ν (skip fun w => ?_)) fun k11 => C (Or.inr (Classical.not_not.mp k11))
        exact w.1.2.elim k10 k11
  have go169 : ∀ (n t : Nat) (ν : zS), t ≤ c 2 → ((∀ q, q ≠ 93 → ν q = μ q) ∧ (∀ q, ((SJ c len μ q ∧ μ 93 q = Int32.ofNat (4 + l) ∧ q < 24 * t) → ν 93 q = v2) ∧ (¬ (SJ c len μ q ∧ μ 93 q = Int32.ofNat (4 + l) ∧ q < 24 * t) → ν 93 q = μ 93 q))) → zp (zb_M_findLaters_169 k2 N n ν (Int32.ofNat l) v2 (Int32.ofNat t)) Q := by
    intro n
    induction n with
    | zero => intro _ _ _ _; exact zp_none
    | succ n ih =>
      intro t ν ht inv
      rw [zb_M_findLaters_169, inv.1 82 (by decide), h17]
      refine zp_ite (fun q => hk ν inv.1 fun q' => ⟨fun w => (inv.2 q').1 ⟨w.1, w.2, ?_⟩, fun w => (inv.2 q').2 fun y => w ⟨y.1, y.2.1⟩⟩) fun q => ?_
      · have et : t = c 2 := by
          have := (zo_le (by omega) (by omega)).mp q
          omega
        obtain ⟨⟨⟨t', s', a1, a2, a3⟩, _⟩, _⟩ := w
        have := (h90 t' a1).1
        omega
      · have lt : t < c 2 := by
          have : ¬ c 2 ≤ t := fun w => q ((zo_le (by omega) (by omega)).mpr w)
          omega
        exact go180 _ t lt (fun ν' h' => ih (t + 1) ν' (by omega) h') N 0 ν (by omega) inv
  unfold zb_M_findLaters_167
  exact go169 N 0 μ (by omega) ⟨fun _ _ => rfl, fun q => ⟨fun w => by omega, fun _ => rfl⟩⟩
