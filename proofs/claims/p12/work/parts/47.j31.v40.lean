-- both answer alike
set_option maxRecDepth 2000
theorem Nm.same2 {μ : zS} {p q : Nat} {w v : Int64} (h : Nm μ p w) (g : Nm μ q v) : w = v ↔ (μ 86 p = μ 86 q ∧ ∀ i : Nat, Int32.ofNat i < μ 86 q → i ≤ 6 → μ 85 (6 * p + i) = μ 85 (6 * q + i)) := by
  obtain ⟨s, a, b, c, d, e⟩ := h
  obtain ⟨t, a', b', c', d', e'⟩ := g
  have lt : ∀ i : Nat, i ≤ 6 → (Int32.ofNat i < Int32.ofNat t ↔ i < t) := fun i hi => zo_lt (by omega) (by omega)
  constructor
  · intro q
    rw [e, e'] at q
    obtain ⟨q1, q2⟩ := pkf_inj b b' (fun i hi => ⟨(d i hi).1, Int32.le_trans (d i hi).2 (by decide)⟩) (fun i hi => ⟨(d' i hi).1, Int32.le_trans (d' i hi).2 (by decide)⟩) q
    refine ⟨by rw [c, c', q1], fun i hi hi6 => ?_⟩
    rw [c'] at hi
    exact q2 i (by have := (lt i hi6).mp hi; omega)
  · rintro ⟨q1, q2⟩
    rw [c, c'] at q1
    have st : s = t := zo_inj (by omega) (by omega) q1
    subst st
    rw [e, e']
    refine pkf_congr s fun i hi => q2 i ?_ (by omega)
    rw [c']
    exact (lt i (by omega)).mpr hi
theorem p_M_fl60 {k21 : zS → Int32 → Int32 → Int32 → Option zS} {N l t : Nat} {μ : zS} {v2 : Int32} {w v : Int64} {Q : zS → Prop} (hl : l ≤ 128) (ht : t < 4) (nt : Nm μ (10 + t) w) (nl : Nm μ (17 + l) v) (no : w ≠ v → zp (k21 μ (Int32.ofNat l) v2 (Int32.ofNat (t + 1))) Q) (yes : w = v → zp (k21 μ (Int32.ofNat l) (Int32.ofNat t) (Int32.ofNat (t + 1))) Q) : ∀ (n i : Nat) (v4 : Int32), i ≤ 6 → (v4 = 0 → w ≠ v) → (v4 ≠ 0 → μ 86 (10 + t) = μ 86 (17 + l) ∧ ∀ j, j < i → μ 85 (6 * (10 + t) + j) = μ 85 (6 * (17 + l) + j)) → zp (zb_M_findLaters_60 k21 N n μ (Int32.ofNat l) v2 (Int32.ofNat t) v4 (Int32.ofNat i)) Q := by
  obtain ⟨s, s1, s6, es, _, _⟩ := id nl
  have e17 : 17 + Int32.ofNat l = Int32.ofNat (17 + l) := zo_plus (i := 17) rfl (by omega)
  have e10 : 10 + Int32.ofNat t = Int32.ofNat (10 + t) := zo_plus (i := 10) rfl (by omega)
  intro n
  induction n with
  | zero => intro _ _ _ _ _; exact zp_none
  | succ n ih =>
    intro i v4 hi h0 h1
    rw [zb_M_findLaters_60, e17, e10, zo_n (by omega)]
    have out : (Int32.ofNat i < μ 86 (17 + l) → v4 = 0) → zp (zb_M_findLaters_125 k21 N μ (Int32.ofNat l) v2 (Int32.ofNat t) v4) Q := by
      intro q
      unfold zb_M_findLaters_125 zb_M_findLaters_135
      rw [zo_1 (by omega)]
      refine zp_ite (fun c => no (h0 c)) fun c => yes ((nt.same2 nl).mpr ⟨(h1 c).1, fun j hj _ => (h1 c).2 j ?_⟩)
      have ge : ¬ Int32.ofNat i < μ 86 (17 + l) := fun x => c (q x)
      rw [es, zo_lt (by omega) (by omega)] at ge hj
      omega
    refine zp_chk fun _ => zp_ite (fun c => out fun q => absurd q (Int32.not_lt.mpr c)) fun c => zp_ite (fun d => out fun _ => d) fun d => zp_chk fun _ => zp_chk fun _ => ?_
    have c' := Int32.not_le.mp c
    have i6 : i < 6 := by
      rw [es, zo_lt (by omega) (by omega)] at c'
      omega
    rw [zo_six (by omega) (by omega), zo_six (by omega) (by omega)]
    unfold zb_M_findLaters_117
    rw [zo_1 (by omega)]
    refine zp_ite (fun e => ?_) fun e => ?_
    · exact ih (i + 1) 0 (by omega) (fun _ q => e (((nt.same2 nl).mp q).2 i c' (by omega))) (fun q => absurd rfl q)
    · refine ih (i + 1) 1 (by omega) (fun q => absurd q (by decide)) fun _ => ⟨(h1 d).1, fun j hj => ?_⟩
      by_cases q : j = i
      · rw [q]; exact Classical.not_not.mp e
      · exact (h1 d).2 j (by omega)
theorem p_M_fl167 {k2 : zS → Int32 → Option zS} {N : Nat} {v1 v2 : Int32} {Q : zS → Prop} {μ : zS} (hk : ∀ ν, (∀ q, q ≠ 93 → ν q = μ q) → zp (k2 ν (v1 + 1)) Q) : zp (zb_M_findLaters_167 k2 N μ v1 v2) Q := by
  have go180 : ∀ (k169 : zS → Int32 → Int32 → Int32 → Option zS), (∀ ν v3, (∀ q, q ≠ 93 → ν q = μ q) → zp (k169 ν v1 v2 v3) Q) → ∀ (n : Nat) (ν : zS) (v3 v4 : Int32), (∀ q, q ≠ 93 → ν q = μ q) → zp (zb_M_findLaters_180 k169 N n ν v1 v2 v3 v4) Q := by
    intro k169 h169 n
    induction n with
    | zero => intro _ _ _ _; exact zp_none
    | succ n ih =>
      intro ν v3 v4 h
      have B : ∀ ν', (∀ q, q ≠ 93 → ν' q = μ q) → zp (zb_M_findLaters_245 (zb_M_findLaters_180 k169 N n) N ν' v1 v2 v3 v4) Q := fun ν' h' => by unfold zb_M_findLaters_245; exact ih ν' v3 (v4 + 1) h'
      have C : ∀ v5, zp (zb_M_findLaters_224 (zb_M_findLaters_180 k169 N n) N ν v1 v2 v3 v4 v5) Q := fun v5 => by
        unfold zb_M_findLaters_224
        exact zp_chk fun _ => zp_ite (fun _ => B ν h) fun _ => zp_chk fun _ => B _ fun q hq => by rw [zu_other hq]; exact h q hq
      rw [zb_M_findLaters_180]
      exact zp_chk fun _ => zp_ite (fun _ => h169 ν _ h) fun _ => zp_chk fun _ => zp_ite (fun _ => C _) fun _ => zp_chk fun _ => zp_ite (fun _ => B ν h) fun _ => C _
  have go169 : ∀ (n : Nat) (ν : zS) (v3 : Int32), (∀ q, q ≠ 93 → ν q = μ q) → zp (zb_M_findLaters_169 k2 N n ν v1 v2 v3) Q := by
    intro n
    induction n with
    | zero => intro _ _ _; exact zp_none
    | succ n ih =>
      intro ν v3 h
      rw [zb_M_findLaters_169]
      exact zp_ite (fun _ => hk ν h) fun _ => go180 _ (fun ν' v3' h' => ih ν' v3' h') N ν v3 0 h
  unfold zb_M_findLaters_167
  exact go169 N μ 0 fun _ _ => rfl
theorem p_M_findLaters {N nz nt : Nat} {wt wz : Nat → Int64} {μ : zS} (h9 : μ 82 9 = 0) (h19 : μ 82 19 = Int32.ofNat nz) (z128 : nz ≤ 128) (h17 : μ 82 17 = Int32.ofNat nt) (t4 : nt ≤ 4) (nmt : ∀ t, t < nt → Nm μ (10 + t) (wt t)) (nmz : ∀ l, l < nz → Nm μ (17 + l) (wz l)) : zp (zf_M_findLaters N μ) (fun s => ((∀ q, q ≠ 93 → s q = μ q) ∧ ∀ l, l < nz → ∃ k, k < nt ∧ wt k = wz l) ∨ (∃ l0, l0 < nz ∧ (∀ k, k < nt → wt k ≠ wz l0) ∧ (∀ l, l < l0 → ∃ k, k < nt ∧ wt k = wz l) ∧ MFl s (μ 87 l0))) := by
  unfold zf_M_findLaters
  have go2 : ∀ (n l : Nat) (ν : zS), l ≤ nz → (∀ l', l' < l → ∃ k, k < nt ∧ wt k = wz l') → (∀ q, q ≠ 93 → ν q = μ q) → zp (zb_M_findLaters_2 N n ν (Int32.ofNat l)) (fun s => ((∀ q, q ≠ 93 → s q = μ q) ∧ ∀ l, l < nz → ∃ k, k < nt ∧ wt k = wz l) ∨ (∃ l0, l0 < nz ∧ (∀ k, k < nt → wt k ≠ wz l0) ∧ (∀ l, l < l0 → ∃ k, k < nt ∧ wt k = wz l) ∧ MFl s (μ 87 l0))) := by
    intro n
    induction n with
    | zero => intro _ _ _ _ _; exact zp_none
    | succ n ih =>
      intro l ν hl res fr
      have e82 := fr 82 (by decide)
      rw [zb_M_findLaters_2, e82, h19, h9]
      refine zp_ite (fun q => zp_some (Or.inl ⟨fr, fun l' hl' => res l' ?_⟩)) fun q => zp_ite (fun q2 => absurd rfl q2) fun _ => ?_
      · have := (zo_le (by omega) (by omega)).mp q
        omega
      have lt : l < nz := by
        rw [zo_le (by omega) (by omega)] at q
        omega
      have nmt' : ∀ t, t < nt → Nm ν (10 + t) (wt t) := fun t ht => (nmt t ht).of (fun i _ => by rw [fr 85 (by decide)]) (by rw [fr 86 (by decide)])
      have nmz' : ∀ l, l < nz → Nm ν (17 + l) (wz l) := fun l hl => (nmz l hl).of (fun i _ => by rw [fr 85 (by decide)]) (by rw [fr 86 (by decide)])
      have e17 : 17 + Int32.ofNat l = Int32.ofNat (17 + l) := zo_plus (i := 17) rfl (by omega)
      have go21 : ∀ (m t : Nat) (v2 : Int32), t ≤ nt → ((v2 = -1 ∧ ∀ k, k < t → wt k ≠ wz l) ∨ (∃ k, k < t ∧ v2 = Int32.ofNat k ∧ wt k = wz l)) → zp (zb_M_findLaters_21 (zb_M_findLaters_2 N n) N m ν (Int32.ofNat l) v2 (Int32.ofNat t)) (fun s => ((∀ q, q ≠ 93 → s q = μ q) ∧ ∀ l, l < nz → ∃ k, k < nt ∧ wt k = wz l) ∨ (∃ l0, l0 < nz ∧ (∀ k, k < nt → wt k ≠ wz l0) ∧ (∀ l, l < l0 → ∃ k, k < nt ∧ wt k = wz l) ∧ MFl s (μ 87 l0))) := by
        intro m
        induction m with
        | zero => intro _ _ _ _; exact zp_none
        | succ m ihm =>
          intro t v2 ht hv
          rw [zb_M_findLaters_21, e82, h17]
          refine zp_ite (fun q => ?_) fun q => ?_
          · have et : t = nt := by
              have := (zo_le (by omega) (by omega)).mp q
              omega
            subst et
            refine zp_ite (fun z => p_M_fl167 fun ν' f' => ?_) fun z => zp_chk fun _ => p_M_fl167 fun ν' f' => ?_
            · rw [zo_1 (by omega)]
              refine ih (l + 1) ν' (by omega) (fun l' hl' => ?_) (fun q hq => by rw [f' q hq, fr q hq])
              by_cases e : l' = l
              · rcases hv with ⟨e1, _⟩ | ⟨k, k1, _, k3⟩
                · exact absurd e1 z
                · rw [e]; exact ⟨k, k1, k3⟩
              · exact res l' (by omega)
            · have e93 := f' 82 (by decide)
              have f9 : ν' 82 9 = 1 := by rw [e93, zx_up_same, zu_ne (by decide), zx_up_same, zu_ne (by decide), zx_up_same, zu_eq]
              have f11 : ν' 82 11 = μ 87 l := by rw [e93, zx_up_same, zu_eq, fr 87 (by decide), zo_n (by omega)]
              have un : ∀ k, k < t → wt k ≠ wz l := by
                rcases hv with ⟨_, h⟩ | ⟨k, k1, k2, _⟩
                · exact h
                · exact absurd (k2.symm.trans (Classical.not_not.mp z)) (zo_ne (by omega))
              have done : zp (some ν') (fun s => ((∀ q, q ≠ 93 → s q = μ q) ∧ ∀ l, l < nz → ∃ k, k < t ∧ wt k = wz l) ∨ (∃ l0, l0 < nz ∧ (∀ k, k < t → wt k ≠ wz l0) ∧ (∀ l, l < l0 → ∃ k, k < t ∧ wt k = wz l) ∧ MFl s (μ 87 l0))) := zp_some (Or.inr ⟨l, lt, un, res, by rw [f9]; decide, f11⟩)
              cases n with
              | zero => exact zp_none
              | succ n =>
                rw [zb_M_findLaters_2]
                exact zp_ite (fun _ => done) fun _ => zp_ite (fun _ => done) fun q => absurd (Classical.not_not.mp q) (by rw [f9]; decide)
          · have tn : t < nt := by
              rw [zo_le (by omega) (by omega)] at q
              omega
            have e10 : 10 + Int32.ofNat t = Int32.ofNat (10 + t) := zo_plus (i := 10) rfl (by omega)
            rw [e10, e17, zo_n (m := 10 + t) (by omega), zo_n (m := 17 + l) (by omega)]
            have hit := fun (x : Int32) hx0 hx1 => p_M_fl60 (k21 := zb_M_findLaters_21 (zb_M_findLaters_2 N n) N m) (N := N) (v2 := v2) (Q := fun s => ((∀ q, q ≠ 93 → s q = μ q) ∧ ∀ l, l < nz → ∃ k, k < nt ∧ wt k = wz l) ∨ (∃ l0, l0 < nz ∧ (∀ k, k < nt → wt k ≠ wz l0) ∧ (∀ l, l < l0 → ∃ k, k < nt ∧ wt k = wz l) ∧ MFl s (μ 87 l0))) (l := l) (t := t) (by omega) (by omega) (nmt' t tn) (nmz' l lt) (fun ne => ihm (t + 1) v2 (by omega) (by
                rcases hv with ⟨e1, h⟩ | ⟨k, k1, k2, k3⟩
                · refine Or.inl ⟨e1, fun k hk => ?_⟩
                  by_cases e : k = t
                  · rw [e]; exact ne
                  · exact h k (by omega)
                · exact Or.inr ⟨k, by omega, k2, k3⟩)) (fun eq => ihm (t + 1) _ (by omega) (Or.inr ⟨t, by omega, rfl, eq⟩)) N 0 x (by omega) hx0 hx1
            unfold zb_M_findLaters_55
            refine zp_chk fun _ => zp_chk fun _ => zp_ite (fun d => ?_) fun d => ?_
            · exact hit 0 (fun _ x => d (((nmt' t tn).same2 (nmz' l lt)).mp x).1) (fun x => absurd rfl x)
            · exact hit 1 (fun x => absurd x (by decide)) (fun _ => ⟨Classical.not_not.mp d, fun j hj => absurd hj (Nat.not_lt_zero _)⟩)
      exact go21 N 0 (-1) (Nat.zero_le _) (Or.inl ⟨rfl, fun k hk => absurd hk (Nat.not_lt_zero _)⟩)
  exact go2 N 0 μ (Nat.zero_le _) (fun l hl => absurd hl (Nat.not_lt_zero _)) (fun _ _ => rfl)
