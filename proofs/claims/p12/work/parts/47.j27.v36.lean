-- both answer alike
set_option maxRecDepth 2000
def wsAdd (ws : Nat → Nat → Int64) (s n : Nat) (w : Int64) : Nat → Nat → Int64 := fun s' k => if s' = s ∧ k = n then w else ws s' k
theorem wsAdd_at {ws : Nat → Nat → Int64} {s n : Nat} {w : Int64} : wsAdd ws s n w s n = w := if_pos ⟨rfl, rfl⟩
theorem wsAdd_ne {ws : Nat → Nat → Int64} {s n s' k : Nat} {w : Int64} (h : ¬ (s' = s ∧ k = n)) : wsAdd ws s n w s' k = ws s' k := if_neg h
theorem z3_up {c : Nat → Nat} {s : Nat} (hs : s < 3) : lUp c s (c s + 1) 0 + lUp c s (c s + 1) 1 + lUp c s (c s + 1) 2 = c 0 + c 1 + c 2 + 1 := by
  unfold lUp
  match s, hs with
  | 0, _ => simp; omega
  | 1, _ => simp; omega
  | 2, _ => simp; omega
theorem NX3.tell {c : Nat → Nat} {ws : Nat → Nat → Int64} {ρ r : zS} {τ υ : zT} {s : Nat} {w : Int64} (h : NX3 c ws ρ τ) (hs : s < 3) (hc : c s < cap s) (no : ∀ s k, s < 3 → k < c s → ws s k ≠ w) (e4 : r 4 s = Int32.ofNat (c s + 1)) (e4' : ∀ s', s' < 3 → s' ≠ s → r 4 s' = ρ 4 s') (e18 : r 18 3 = Int32.ofNat (c 0 + c 1 + c 2 + 1)) (e20 : r 20 (c 0 + c 1 + c 2) = Int32.ofNat s) (e20' : ∀ j, j ≠ c 0 + c 1 + c 2 → r 20 j = ρ 20 j) (e21 : r 21 (c 0 + c 1 + c 2) = Int32.ofNat (c s)) (e21' : ∀ j, j ≠ c 0 + c 1 + c 2 → r 21 j = ρ 21 j) (t19 : υ 19 (c 0 + c 1 + c 2) = w) (t19' : ∀ j, j ≠ c 0 + c 1 + c 2 → υ 19 j = τ 19 j) : NX3 (lUp c s (c s + 1)) (wsAdd ws s (c s) w) r υ := by
  obtain ⟨h1, h2, h3, h4, h5⟩ := h
  unfold NX3
  rw [z3_up hs]
  have lt : ∀ {s' k}, k < c s' → k < lUp c s (c s + 1) s' := by
    intro s' k hk
    by_cases e : s' = s
    · rw [e, lUp_at]; rw [e] at hk; omega
    · rw [lUp_ne e]; exact hk
  have old : ∀ {s' k}, k < c s' → wsAdd ws s (c s) w s' k = ws s' k := by
    intro s' k hk
    refine wsAdd_ne fun q => ?_
    rw [q.1, q.2] at hk
    omega
  refine ⟨fun s' hs' => ?_, e18, fun i hi => ?_, fun s' k hs' hk => ?_, fun i j hi hj e => ?_⟩
  · by_cases e : s' = s
    · rw [e, lUp_at]; exact ⟨by omega, e4⟩
    · rw [lUp_ne e, e4' s' hs' e]; exact h1 s' hs'
  · by_cases e : i = c 0 + c 1 + c 2
    · rw [e]
      exact ⟨s, c s, hs, by rw [lUp_at]; omega, e20, e21, by rw [t19, wsAdd_at]⟩
    · obtain ⟨s', k, a1, a2, a3, a4, a5⟩ := h3 i (by omega)
      exact ⟨s', k, a1, lt a2, by rw [e20' i e]; exact a3, by rw [e21' i e]; exact a4, by rw [t19' i e, old a2]; exact a5⟩
  · by_cases q : s' = s ∧ k = c s
    · obtain ⟨rfl, rfl⟩ := q
      exact ⟨c 0 + c 1 + c 2, by omega, e20, e21, by rw [t19, wsAdd_at]⟩
    · have hk' : k < c s' := by
        by_cases e : s' = s
        · rw [e, lUp_at] at hk
          rw [e]
          have : k ≠ c s := fun x => q ⟨e, x⟩
          omega
        · rw [lUp_ne e] at hk; exact hk
      obtain ⟨i, i1, i2, i3, i4⟩ := h4 s' k hs' hk'
      exact ⟨i, by omega, by rw [e20' i (by omega)]; exact i2, by rw [e21' i (by omega)]; exact i3, by rw [t19' i (by omega), old hk']; exact i4⟩
  · have nw : ∀ j, j < c 0 + c 1 + c 2 → τ 19 j ≠ w := by
      intro j hj e
      obtain ⟨s', k, a1, a2, a3, a4, a5⟩ := h3 j hj
      exact no s' k a1 a2 (a5.symm.trans e)
    by_cases ei : i = c 0 + c 1 + c 2
    · by_cases ej : j = c 0 + c 1 + c 2
      · rw [ei, ej]
      · rw [ei, t19, t19' j ej] at e
        exact absurd e.symm (nw j (by omega))
    · by_cases ej : j = c 0 + c 1 + c 2
      · rw [ej, t19, t19' i ei] at e
        exact absurd e (nw i (by omega))
      · rw [t19' i ei, t19' j ej] at e
        exact h5 i j (by omega) (by omega) e
theorem bs_ne {c : Nat → Nat} {s s' k : Nat} (hs : s < 3) (hs' : s' < 3) (hc : c s < cap s) (hc' : c s' ≤ cap s') (hk : k < c s') : bs s' + k ≠ bs s + c s := by
  unfold bs
  unfold cap at hc hc'
  match s, s', hs, hs' with
  | 0, 0, _, _ => simp; omega
  | 0, 1, _, _ => simp at hc hc' ⊢; omega
  | 0, 2, _, _ => simp at hc hc' ⊢; omega
  | 1, 0, _, _ => simp at hc hc' ⊢; omega
  | 1, 1, _, _ => simp; omega
  | 1, 2, _, _ => simp at hc hc' ⊢; omega
  | 2, 0, _, _ => simp at hc hc' ⊢; omega
  | 2, 1, _, _ => simp at hc hc' ⊢; omega
  | 2, 2, _, _ => simp; omega
theorem NM3.tell {c : Nat → Nat} {ws : Nat → Nat → Int64} {μ ν ν' : zS} {s : Nat} {w : Int64} (h : NM3 c ws μ) (hs : s < 3) (hc : c s < cap s) (mc : MC0 (bs s + c s) μ ν) (nm : Nm ν (bs s + c s) w) (e85 : ν' 85 = ν 85) (e86 : ν' 86 = ν 86) (e : ν' 82 (15 + s) = Int32.ofNat (c s + 1)) (e' : ∀ i, 15 ≤ i → i ≤ 17 → i ≠ 15 + s → ν' 82 i = μ 82 i) : NM3 (lUp c s (c s + 1)) (wsAdd ws s (c s) w) ν' := by
  intro s' hs'
  obtain ⟨a1, a2, a3⟩ := h s' hs'
  have old : ∀ k, k < c s' → Nm ν' (bs s' + k) (ws s' k) := fun k hk => by
    have ne := bs_ne hs hs' hc a1 hk
    exact (a3 k hk).of (fun i hi => by rw [e85, mc.2.2 _ (by omega)]) (by rw [e86, mc.2.1 _ ne])
  by_cases q : s' = s
  · subst q
    rw [lUp_at]
    refine ⟨by omega, e, fun k hk => ?_⟩
    by_cases q2 : k = c s'
    · rw [q2, wsAdd_at]; exact nm.of (fun i hi => by rw [e85]) (by rw [e86])
    · rw [wsAdd_ne (fun x => q2 x.2)]; exact old k (by omega)
  · rw [lUp_ne q]
    refine ⟨a1, by rw [e' (15 + s') (by omega) (by omega) (by omega)]; exact a2, fun k hk => ?_⟩
    rw [wsAdd_ne (fun x => q x.1)]; exact old k hk
def TLD (c : Nat → Nat) (s : Nat) (w : Int64) (ρ r : zS) (τ υ : zT) : Prop :=
  (∀ q, q ≠ 18 → q ≠ 20 → q ≠ 21 → q ≠ 25 → r q = ρ q) ∧ (∀ i, i ≠ 3 → r 18 i = ρ 18 i) ∧ r 18 3 = Int32.ofNat (c 0 + c 1 + c 2 + 1) ∧ r 20 (c 0 + c 1 + c 2) = Int32.ofNat s ∧ (∀ j, j ≠ c 0 + c 1 + c 2 → r 20 j = ρ 20 j) ∧ r 21 (c 0 + c 1 + c 2) = Int32.ofNat (c s) ∧ (∀ j, j ≠ c 0 + c 1 + c 2 → r 21 j = ρ 21 j) ∧ υ 19 (c 0 + c 1 + c 2) = w ∧ (∀ j, j ≠ c 0 + c 1 + c 2 → υ 19 j = τ 19 j) ∧ (∀ q, q ≠ 19 → q ≠ 25 → υ q = τ q)
theorem p_tell {T : TS} {b N N' s : Nat} {c : Nat → Nat} {ws : Nat → Nat → Int64} {ρ : zS} {τ : zT} {bb : Nat → Int32} {nn : Int32} (tb : TB bb nn T.1 T.2.1 T.2.2.1 T.2.2.2.1 T.2.2.2.2) (sx : SX T b ρ τ) (h : NX3 c ws ρ τ) (hs : s < 3) : zp (zf_Reader_tellName N ρ τ (Int32.ofNat s) (Int32.ofNat (c s)) (Int32.ofNat (cap s))) (fun r => (r.1 = 0 ∧ XFl r.2.1 (T.2.1 b) ∧ ((¬ T.1 b = 3) ∨ (T.1 b = 3 ∧ ∀ μ, SM T b μ → NM3 c ws μ → zp (zf_M_isTold N' μ) (fun u => u = 1)) ∨ (T.1 b = 3 ∧ c s = cap s ∧ ∀ μ, SM T b μ → NM3 c ws μ → zp (zf_M_isTold N' μ) (fun u => u = 0)))) ∨ (r.1 = 1 ∧ T.1 b = 3 ∧ c s < cap s ∧ SX T (b + 1) r.2.1 r.2.2 ∧ (∀ s k, s < 3 → k < c s → ws s k ≠ T.2.2.1 b) ∧ TLD c s (T.2.2.1 b) ρ r.2.1 τ r.2.2 ∧ ∀ μ, SM T b μ → NM3 c ws μ → zp (zf_M_isTold N' μ) (fun u => u = 0))) := by
  have z := h.z
  have cc := (h.1 s hs).1
  have c6 := cap_le s
  have fl : ∀ k : Int32, k ≠ 0 → ∀ {Q : Int32 × zS × zT → Prop}, (∀ r : Int32 × zS, r.1 = 0 → XFl r.2 (T.2.1 b) → Q (r.1, r.2, τ)) → zp ((zf_Reader_failHere ρ k).bind fun r => if r.1 = 0 ∨ r.1 = 1 then some (r.1, r.2, τ) else none) Q := by
    intro k hk Q hq
    refine zp_bind (zp_mono (p_X_fail hk) fun r hr => zp_chk fun _ => zp_some (hq r hr.1 ?_))
    rw [← sx.p]
    exact hr.2
  unfold zf_Reader_tellName
  rw [sx.k, sx.w]
  refine zp_ite (fun k3 => zp_bind (zp_mono (p_told (T := T) (b := b) (N' := N') h _ rfl k3) fun r2 h2 => ?_)) fun k3 => fl 2 (by decide) fun r e x => Or.inl ⟨e, x, Or.inl k3⟩
  rcases h2 with ⟨e, no, m⟩ | ⟨ne, m⟩
  · refine zp_ite (fun _ => zp_ite (fun lt => ?_) fun ge => fl 4 (by decide) fun r e x => Or.inl ⟨e, x, Or.inr (Or.inr ⟨k3, ?_, m⟩)⟩) fun q => absurd e q
    · have lt' : c s < cap s := (zo_lt (by omega) (by omega)).mp lt
      have tl : zp (zf_Names_tell ρ τ (T.2.2.1 b) (Int32.ofNat s) (Int32.ofNat (c s))) (fun r => r = ((zx_up (zx_up (zx_up ρ 20 (c 0 + c 1 + c 2) (Int32.ofNat s)) 21 (c 0 + c 1 + c 2) (Int32.ofNat (c s))) 18 3 (Int32.ofNat (c 0 + c 1 + c 2 + 1))), (zx_up τ 19 (c 0 + c 1 + c 2) (T.2.2.1 b)))) := by
        have z13 : c 0 + c 1 + c 2 < 14 := by
          have a := (h.1 0 (by decide)).1
          have b := (h.1 1 (by decide)).1
          have d := (h.1 2 (by decide)).1
          unfold cap at a b d lt'
          simp at a b d
          match s, hs with
          | 0, _ => simp at lt'; omega
          | 1, _ => simp at lt'; omega
          | 2, _ => simp at lt'; omega
        unfold zf_Names_tell
        rw [h.2.1, zo_n (by omega), zo_1 (by omega)]
        refine zp_ite (fun q => ?_) fun _ => zp_ite (fun q => ?_) fun _ => zp_chk fun _ => zp_chk fun _ => zp_chk fun _ => zp_some rfl
        · have := (zo_lt (k := c 0 + c 1 + c 2) (j := 0) (by omega) (by omega)).mp q
          omega
        · have := (zo_le (k := 14) (j := c 0 + c 1 + c 2) (by omega) (by omega)).mp q
          omega
      refine zp_bind (zp_mono tl fun r5 h5 => ?_)
      subst h5
      have sx5 : SX T b (zx_up (zx_up (zx_up ρ 20 (c 0 + c 1 + c 2) (Int32.ofNat s)) 21 (c 0 + c 1 + c 2) (Int32.ofNat (c s))) 18 3 (Int32.ofNat (c 0 + c 1 + c 2 + 1))) (zx_up τ 19 (c 0 + c 1 + c 2) (T.2.2.1 b)) := sx.of (by rw [zu_other (by decide), zu_other (by decide), zu_other (by decide)]) (by rw [zu_other (by decide), zu_other (by decide), zu_other (by decide)]) (by rw [zu_other (by decide), zu_other (by decide), zu_other (by decide)]) (by rw [zu_other (by decide), zu_other (by decide), zu_other (by decide)]) (zt_other (by decide)) (zt_other (by decide))
      refine zp_bind (zp_mono (sx5.adv tb (by rw [k3]; decide)) ?_)
      rintro r6 ⟨x1, x2, x3⟩
      dsimp only at x2 x3
      refine zp_some (Or.inr ⟨rfl, k3, lt', x1, no, ⟨fun q a1 a2 a3 a4 => ?_, fun i hi => ?_, ?_, ?_, fun j hj => ?_, ?_, fun j hj => ?_, ?_, fun j hj => ?_, fun q a1 a2 => ?_⟩, m⟩) <;> dsimp only
      · rw [x2.1 q a4, zu_other a1, zu_other a3, zu_other a2]
      · rw [x2.1 18 (by decide), zx_up_same, zu_ne hi, zu_other (by decide), zu_other (by decide)]
      · rw [x2.1 18 (by decide), zx_up_same, zu_eq]
      · rw [x2.1 20 (by decide), zu_other (by decide), zu_other (by decide), zx_up_same, zu_eq]
      · rw [x2.1 20 (by decide), zu_other (by decide), zu_other (by decide), zx_up_same, zu_ne hj]
      · rw [x2.1 21 (by decide), zu_other (by decide), zx_up_same, zu_eq]
      · rw [x2.1 21 (by decide), zu_other (by decide), zx_up_same, zu_ne hj, zu_other (by decide)]
      · rw [x3 19 (by decide), zt_at]
      · rw [x3 19 (by decide), zt_ne hj]
      · rw [x3 q a2, zt_other a1]
    · have : ¬ c s < cap s := fun x => ge ((zo_lt (by omega) (by omega)).mpr x)
      omega
  · exact zp_ite (fun q => absurd q ne) fun _ => fl 3 (by decide) fun r e x => Or.inl ⟨e, x, Or.inr (Or.inl ⟨k3, m⟩)⟩
