-- both answer alike
set_option maxRecDepth 2000
theorem z_dm96 : ∀ q : Fin 96, Int32.ofNat q.val / 24 = Int32.ofNat (q.val / 24) ∧ zJ_rem (Int32.ofNat q.val) 24 = Int32.ofNat (q.val % 24) := by decide +kernel
theorem p_X_slotOf2 {ρ : zS} {t s : Nat} (ht : t < 4) (hs : s < 24) : zp (zf_Program_slotOf ρ (Int32.ofNat t) (Int32.ofNat s)) (fun r => (Int32.ofNat s < ρ 5 t ∧ r = Int32.ofNat (24 * t + s)) ∨ (¬ Int32.ofNat s < ρ 5 t ∧ r = 96)) := by
  by_cases h : Int32.ofNat s < ρ 5 t
  · exact zp_mono (p_X_slotOf ht hs h) fun r hr => Or.inl ⟨h, hr⟩
  · unfold zf_Program_slotOf zb_Program_slotOf_33 zb_Program_slotOf_34
    rw [zo_n (m := t) (by omega)]
    have n5 : ρ 5 t ≤ Int32.ofNat s := Int32.not_lt.mp h
    have A : zp (if (0 : Int32) = 0 then some (96 : Int32) else some (Int32.ofNat t * 24 + Int32.ofNat s)) (fun r => (Int32.ofNat s < ρ 5 t ∧ r = Int32.ofNat (24 * t + s)) ∨ (¬ Int32.ofNat s < ρ 5 t ∧ r = 96)) := zp_ite (fun _ => zp_some (Or.inr ⟨h, rfl⟩)) fun q => absurd rfl q
    intro r hr
    simp only [n5, if_true] at hr
    have : r = 96 := by
      repeat' split at hr
      all_goals first | (cases hr; rfl) | (simp at hr) | (simp at hr; grind)
    exact Or.inr ⟨h, this⟩
def FT0 (ρ r : zS) : Prop := ∀ q, q ≠ 6 → q ≠ 8 → r q = ρ q
theorem p_X_findThreads {N : Nat} {c : Nat → Nat} {ws : Nat → Nat → Int64} {len : Nat → Nat} {ρ : zS} {τ : zT} {μ : zS} (ns : NX3 c ws ρ τ) (pk : PKW c len 0 ρ μ) (h17 : ρ 17 6 = 0) : zp (zb_Reader_readText_93 N ρ τ) (fun r => r.2 = τ ∧ ((FT0 ρ r.1 ∧ ∀ q, SJ c len μ q → ∃ k, k < c 2 ∧ ws 2 k = τ 23 q) ∨ (∃ q0, SJ c len μ q0 ∧ (∀ k, k < c 2 → ws 2 k ≠ τ 23 q0) ∧ (∀ q, SJ c len μ q → q < q0 → ∃ k, k < c 2 ∧ ws 2 k = τ 23 q) ∧ XFl r.1 (ρ 24 q0)))) := by
  have c24 : c 2 ≤ 4 := (ns.1 2 (by decide)).1
  unfold zb_Reader_readText_93
  have go : ∀ (n q : Nat) (r : zS), q ≤ 96 → FT0 ρ r → (∀ q', q' < q → SJ c len μ q' → ∃ k, k < c 2 ∧ ws 2 k = τ 23 q') → zp (zb_Reader_readText_95 N n r τ (Int32.ofNat q)) (fun r => r.2 = τ ∧ ((FT0 ρ r.1 ∧ ∀ q, SJ c len μ q → ∃ k, k < c 2 ∧ ws 2 k = τ 23 q) ∨ (∃ q0, SJ c len μ q0 ∧ (∀ k, k < c 2 → ws 2 k ≠ τ 23 q0) ∧ (∀ q, SJ c len μ q → q < q0 → ∃ k, k < c 2 ∧ ws 2 k = τ 23 q) ∧ XFl r.1 (ρ 24 q0)))) := by
    intro n
    induction n with
    | zero => intro _ _ _ _ _; exact zp_none
    | succ n ih =>
      intro q r hq fr res
      have e17 : r 17 6 = 0 := by rw [fr 17 (by decide) (by decide)]; exact h17
      rw [zb_Reader_readText_95, e17]
      refine zp_ite (fun z => zp_some ⟨rfl, Or.inl ⟨fr, fun q' hq' => ?_⟩⟩) fun z => zp_ite (fun y => absurd rfl y) fun _ => ?_
      · have : 96 ≤ q := (zo_le (k := 96) (j := q) (by omega) (by omega)).mp z
        refine res q' ?_ hq'
        obtain ⟨⟨t, s, a1, a2, a3⟩, _⟩ := hq'
        have := (pk.1 t a1).1
        omega
      · have q96 : q < 96 := by
          have : ¬ 96 ≤ q := fun x => z ((zo_le (k := 96) (j := q) (by omega) (by omega)).mpr x)
          omega
        have dm := z_dm96 ⟨q, q96⟩
        dsimp only at dm
        unfold zf_Reader_findThread
        rw [dm.1, dm.2]
        have nxt : ∀ r', FT0 ρ r' → (SJ c len μ q → ∃ k, k < c 2 ∧ ws 2 k = τ 23 q) → zp (zb_Reader_readText_95 N n r' τ (Int32.ofNat q + 1)) (fun r => r.2 = τ ∧ ((FT0 ρ r.1 ∧ ∀ q, SJ c len μ q → ∃ k, k < c 2 ∧ ws 2 k = τ 23 q) ∨ (∃ q0, SJ c len μ q0 ∧ (∀ k, k < c 2 → ws 2 k ≠ τ 23 q0) ∧ (∀ q, SJ c len μ q → q < q0 → ∃ k, k < c 2 ∧ ws 2 k = τ 23 q) ∧ XFl r.1 (ρ 24 q0)))) := by
          intro r' fr' h
          rw [zo_1 (by omega)]
          refine ih (q + 1) r' (by omega) fr' fun q' hq' sj => ?_
          by_cases e : q' = q
          · rw [e] at sj ⊢; exact h sj
          · exact res q' (by omega) sj
        refine zp_bind (zp_bind (zp_mono (p_X_slotOf2 (by omega) (by omega)) fun r1 h1 => ?_))
        rw [fr 5 (by decide) (by decide)] at h1
        have used : SJ c len μ q → Int32.ofNat (q % 24) < ρ 5 (q / 24) := by
          rintro ⟨⟨t, s, a1, a2, a3⟩, _⟩
          obtain ⟨b1, b2, _⟩ := pk.1 t a1
          have et : q / 24 = t := by omega
          have es : q % 24 = s := by omega
          rw [et, es, b2]
          exact (zo_lt (by omega) (by omega)).mpr a2
        rcases h1 with ⟨lt, e1⟩ | ⟨nl, e1⟩
        · have eq : 24 * (q / 24) + q % 24 = q := by omega
          rw [eq] at e1
          subst e1
          rw [zo_n (by omega), fr 7 (by decide) (by decide)]
          have tc : q / 24 < c 2 ∧ q % 24 < len (q / 24) := by
            by_cases x : q / 24 < c 2
            · obtain ⟨b1, b2, _⟩ := pk.1 (q / 24) x
              rw [b2] at lt
              exact ⟨x, (zo_lt (by omega) (by omega)).mp lt⟩
            · rw [pk.2.1 (q / 24) (by omega) (by omega)] at lt
              have := (zo_lt (k := q % 24) (j := 0) (by omega) (by omega)).mp lt
              omega
          have kd : ρ 7 q = μ 92 q := by
            have := pk.2.2.2.2.2.2 (q / 24) (q % 24) tc.1 tc.2
            rw [eq] at this
            exact this
          have f45 : (ρ 7 q = 10 ∨ ρ 7 q = 11) → zp (zb_Reader_findThread_45 N r τ (Int32.ofNat q)) (fun r8 => zp (zb_Reader_readText_95 N n r8 τ (Int32.ofNat q + 1)) (fun r => r.2 = τ ∧ ((FT0 ρ r.1 ∧ ∀ q, SJ c len μ q → ∃ k, k < c 2 ∧ ws 2 k = τ 23 q) ∨ (∃ q0, SJ c len μ q0 ∧ (∀ k, k < c 2 → ws 2 k ≠ τ 23 q0) ∧ (∀ q, SJ c len μ q → q < q0 → ∃ k, k < c 2 ∧ ws 2 k = τ 23 q) ∧ XFl r.1 (ρ 24 q0))))) := by
            intro hk
            have sj : SJ c len μ q := ⟨⟨q / 24, q % 24, tc.1, tc.2, eq.symm⟩, by rw [← kd]; exact hk⟩
            have ns' : NX3 c ws r τ := ns.of (fun s _ => by rw [fr 4 (by decide) (by decide)]) (by rw [fr 18 (by decide) (by decide)]) (fr 20 (by decide) (by decide)) (fr 21 (by decide) (by decide)) rfl
            unfold zb_Reader_findThread_45
            rw [zo_n (by omega)]
            refine zp_chk fun _ => zp_bind (zp_mono (p_X_numberOf3 (s := 2) ns' (by decide)) fun r6 h6 => zp_ite (fun x => ?_) fun x => zp_chk fun _ => zp_some ?_)
            · have st : zp (zf_Program_setThread r (Int32.ofNat q) r6) (fun r8 => FT0 ρ r8) := by
                unfold zf_Program_setThread
                refine zp_ite (fun _ => zp_some fr) fun _ => zp_ite (fun _ => zp_some fr) fun _ => zp_ite (fun _ => zp_some fr) fun _ => zp_ite (fun _ => zp_some fr) fun _ => zp_chk fun _ => zp_chk fun _ => zp_ite (fun _ => zp_some fun p a b => ?_) fun _ => zp_chk fun _ => zp_chk fun _ => zp_some fun p a b => ?_
                · rw [zu_other b]; exact fr p a b
                · rw [zu_other a, zu_other b]; exact fr p a b
              refine zp_bind (zp_mono st fun r8 f8 => zp_some (nxt r8 f8 fun _ => ?_))
              rcases h6 with ⟨e6, _⟩ | ⟨k, k1, _, k3, _⟩
              · exact absurd e6 x
              · exact ⟨k, k1, k3⟩
            · have un : ∀ k, k < c 2 → ws 2 k ≠ τ 23 q := (h6.no (by omega)).mp (Classical.not_not.mp x)
              have fl : XFl (zx_up (zx_up r 17 6 5) 17 7 (r 24 q)) (ρ 24 q) := by
                refine ⟨?_, ?_⟩
                · rw [zx_up_same, zu_ne (by decide), zx_up_same, zu_eq]; decide
                · rw [zx_up_same, zu_eq, fr 24 (by decide) (by decide)]
              have done : zp (some (zx_up (zx_up r 17 6 5) 17 7 (r 24 q), τ)) (fun r => r.2 = τ ∧ ((FT0 ρ r.1 ∧ ∀ q, SJ c len μ q → ∃ k, k < c 2 ∧ ws 2 k = τ 23 q) ∨ (∃ q0, SJ c len μ q0 ∧ (∀ k, k < c 2 → ws 2 k ≠ τ 23 q0) ∧ (∀ q, SJ c len μ q → q < q0 → ∃ k, k < c 2 ∧ ws 2 k = τ 23 q) ∧ XFl r.1 (ρ 24 q0)))) := zp_some ⟨rfl, Or.inr ⟨q, sj, un, fun q' sj' lt' => res q' lt' sj', fl⟩⟩
              cases n with
              | zero => exact zp_none
              | succ n =>
                rw [zb_Reader_readText_95]
                exact zp_ite (fun _ => done) fun _ => zp_ite (fun _ => done) fun y => absurd (Classical.not_not.mp y) fl.1
          refine zp_chk fun _ => zp_ite (fun x => ?_) fun _ => zp_ite (fun k10 => f45 (Or.inl k10)) fun k10 => zp_ite (fun k11 => f45 (Or.inr k11)) fun k11 => zp_some (nxt r fr fun sj => ?_)
          · have := (zo_le (k := 96) (j := q) (by omega) (by omega)).mp x
            omega
          · have := sj.2
            rw [← kd] at this
            exact absurd this (fun x => x.elim k10 k11)
        · subst e1
          exact zp_chk fun _ => zp_ite (fun _ => zp_some (nxt r fr fun sj => absurd (used sj) nl)) fun x => absurd (by decide) x
  exact go N 0 ρ (Nat.zero_le _) (fun _ _ _ => rfl) fun q hq => absurd hq (Nat.not_lt_zero _)
