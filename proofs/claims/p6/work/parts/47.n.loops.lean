-- both answer alike
set_option maxRecDepth 2000
theorem Nm.same2 {μ : zS} {p q : Nat} {w v : Int64} (h : Nm μ p w) (g : Nm μ q v) : w = v ↔ (μ 86 p = μ 86 q ∧ ∀ i : Nat, Int32.ofNat i < μ 86 q → i ≤ 6 → μ 85 (6 * p + i) = μ 85 (6 * q + i)) := by
  obtain ⟨s, a, b, c, d, e⟩ := h
  obtain ⟨t, a', b', c', d', e'⟩ := g
  have lt : ∀ i : Nat, i ≤ 6 → (Int32.ofNat i < Int32.ofNat t ↔ i < t) := fun i hi => zo_lt (by omega) (by omega)
  constructor
  · intro q
    rw [e, e'] at q
    obtain ⟨q1, q2⟩ := pkf_inj b b' (fun i hi => ⟨(d i hi).1, Int32.le_trans (d i hi).2 (by decide)⟩) (fun i hi => ⟨(d' i hi).1, Int32.le_trans (d' i hi).2 (by decide)⟩) q
    refine ⟨by rw [c, c', q1], fun i hi hi6 => ?_⟩
    rw [c'] at hi
    exact q2 i (by have := (lt i hi6).mp hi; omega)
  · rintro ⟨q1, q2⟩
    rw [c, c'] at q1
    have st : s = t := zo_inj (by omega) (by omega) q1
    subst st
    rw [e, e']
    refine pkf_congr s fun i hi => q2 i ?_ (by omega)
    rw [c']
    exact (lt i (by omega)).mpr hi
theorem p_M_fl60 {k21 : zS → Int32 → Int32 → Int32 → Option zS} {N l t : Nat} {μ : zS} {v2 : Int32} {w v : Int64} {Q : zS → Prop} (hl : l ≤ 128) (ht : t < 4) (nt : Nm μ (10 + t) w) (nl : Nm μ (17 + l) v) (no : w ≠ v → zp (k21 μ (Int32.ofNat l) v2 (Int32.ofNat (t + 1))) Q) (yes : w = v → zp (k21 μ (Int32.ofNat l) (Int32.ofNat t) (Int32.ofNat (t + 1))) Q) : ∀ (n i : Nat) (v4 : Int32), i ≤ 6 → (v4 = 0 → w ≠ v) → (v4 ≠ 0 → μ 86 (10 + t) = μ 86 (17 + l) ∧ ∀ j, j < i → μ 85 (6 * (10 + t) + j) = μ 85 (6 * (17 + l) + j)) → zp (zb_M_findLaters_60 k21 N n μ (Int32.ofNat l) v2 (Int32.ofNat t) v4 (Int32.ofNat i)) Q := by
  obtain ⟨s, s1, s6, es, _, _⟩ := id nl
  have e17 : 17 + Int32.ofNat l = Int32.ofNat (17 + l) := zo_plus (i := 17) rfl (by omega)
  have e10 : 10 + Int32.ofNat t = Int32.ofNat (10 + t) := zo_plus (i := 10) rfl (by omega)
  intro n
  induction n with
  | zero => intro _ _ _ _ _; exact zp_none
  | succ n ih =>
    intro i v4 hi h0 h1
    rw [zb_M_findLaters_60, e17, e10, zo_n (by omega)]
    have out : (Int32.ofNat i < μ 86 (17 + l) → v4 = 0) → zp (zb_M_findLaters_125 k21 N μ (Int32.ofNat l) v2 (Int32.ofNat t) v4) Q := by
      intro q
      unfold zb_M_findLaters_125 zb_M_findLaters_135
      rw [zo_1 (by omega)]
      refine zp_ite (fun c => no (h0 c)) fun c => yes ((nt.same2 nl).mpr ⟨(h1 c).1, fun j hj _ => (h1 c).2 j ?_⟩)
      have ge : ¬ Int32.ofNat i < μ 86 (17 + l) := fun x => c (q x)
      rw [es, zo_lt (by omega) (by omega)] at ge hj
      omega
    refine zp_chk fun _ => zp_ite (fun c => out fun q => absurd q (Int32.not_lt.mpr c)) fun c => zp_ite (fun d => out fun _ => d) fun d => zp_chk fun _ => zp_chk fun _ => ?_
    have c' := Int32.not_le.mp c
    have i6 : i < 6 := by
      rw [es, zo_lt (by omega) (by omega)] at c'
      omega
    rw [zo_six (by omega) (by omega), zo_six (by omega) (by omega)]
    unfold zb_M_findLaters_117
    rw [zo_1 (by omega)]
    refine zp_ite (fun e => ?_) fun e => ?_
    · exact ih (i + 1) 0 (by omega) (fun _ q => e (((nt.same2 nl).mp q).2 i c' (by omega))) (fun q => absurd rfl q)
    · refine ih (i + 1) 1 (by omega) (fun q => absurd q (by decide)) fun _ => ⟨(h1 d).1, fun j hj => ?_⟩
      by_cases q : j = i
      · rw [q]; exact Classical.not_not.mp e
      · exact (h1 d).2 j (by omega)
theorem p_M_fl167 {k2 : zS → Int32 → Option zS} {N : Nat} {v1 v2 : Int32} {Q : zS → Prop} {μ : zS} (hk : ∀ ν, (∀ q, q ≠ 93 → ν q = μ q) → zp (k2 ν (v1 + 1)) Q) : zp (zb_M_findLaters_167 k2 N μ v1 v2) Q := by
  have go180 : ∀ (k169 : zS → Int32 → Int32 → Int32 → Option zS), (∀ ν v3, (∀ q, q ≠ 93 → ν q = μ q) → zp (k169 ν v1 v2 v3) Q) → ∀ (n : Nat) (ν : zS) (v3 v4 : Int32), (∀ q, q ≠ 93 → ν q = μ q) → zp (zb_M_findLaters_180 k169 N n ν v1 v2 v3 v4) Q := by
    intro k169 h169 n
    induction n with
    | zero => intro _ _ _ _; exact zp_none
    | succ n ih =>
      intro ν v3 v4 h
      have B : ∀ ν', (∀ q, q ≠ 93 → ν' q = μ q) → zp (zb_M_findLaters_245 (zb_M_findLaters_180 k169 N n) N ν' v1 v2 v3 v4) Q := fun ν' h' => by unfold zb_M_findLaters_245; exact ih ν' v3 (v4 + 1) h'
      have C : ∀ v5, zp (zb_M_findLaters_224 (zb_M_findLaters_180 k169 N n) N ν v1 v2 v3 v4 v5) Q := fun v5 => by
        unfold zb_M_findLaters_224
        exact zp_chk fun _ => zp_ite (fun _ => B ν h) fun _ => zp_chk fun _ => B _ fun q hq => by rw [zu_other hq]; exact h q hq
      rw [zb_M_findLaters_180]
      exact zp_chk fun _ => zp_ite (fun _ => h169 ν _ h) fun _ => zp_chk fun _ => zp_ite (fun _ => C _) fun _ => zp_chk fun _ => zp_ite (fun _ => B ν h) fun _ => C _
  have go169 : ∀ (n : Nat) (ν : zS) (v3 : Int32), (∀ q, q ≠ 93 → ν q = μ q) → zp (zb_M_findLaters_169 k2 N n ν v1 v2 v3) Q := by
    intro n
    induction n with
    | zero => intro _ _ _; exact zp_none
    | succ n ih =>
      intro ν v3 h
      rw [zb_M_findLaters_169]
      exact zp_ite (fun _ => hk ν h) fun _ => go180 _ (fun ν' v3' h' => ih ν' v3' h') N ν v3 0 h
  unfold zb_M_findLaters_167
  exact go169 N μ 0 fun _ _ => rfl
theorem p_M_findLaters {N nz nt : Nat} {wt wz : Nat → Int64} {μ : zS} (h9 : μ 82 9 = 0) (h19 : μ 82 19 = Int32.ofNat nz) (z128 : nz ≤ 128) (h17 : μ 82 17 = Int32.ofNat nt) (t4 : nt ≤ 4) (nmt : ∀ t, t < nt → Nm μ (10 + t) (wt t)) (nmz : ∀ l, l < nz → Nm μ (17 + l) (wz l)) : zp (zf_M_findLaters N μ) (fun s => ((∀ q, q ≠ 93 → s q = μ q) ∧ ∀ l, l < nz → ∃ k, k < nt ∧ wt k = wz l) ∨ (∃ l0, l0 < nz ∧ (∀ k, k < nt → wt k ≠ wz l0) ∧ (∀ l, l < l0 → ∃ k, k < nt ∧ wt k = wz l) ∧ MFl s (μ 87 l0))) := by
  unfold zf_M_findLaters
  have go2 : ∀ (n l : Nat) (ν : zS), l ≤ nz → (∀ l', l' < l → ∃ k, k < nt ∧ wt k = wz l') → (∀ q, q ≠ 93 → ν q = μ q) → zp (zb_M_findLaters_2 N n ν (Int32.ofNat l)) (fun s => ((∀ q, q ≠ 93 → s q = μ q) ∧ ∀ l, l < nz → ∃ k, k < nt ∧ wt k = wz l) ∨ (∃ l0, l0 < nz ∧ (∀ k, k < nt → wt k ≠ wz l0) ∧ (∀ l, l < l0 → ∃ k, k < nt ∧ wt k = wz l) ∧ MFl s (μ 87 l0))) := by
    intro n
    induction n with
    | zero => intro _ _ _ _ _; exact zp_none
    | succ n ih =>
      intro l ν hl res fr
      have e82 := fr 82 (by decide)
      rw [zb_M_findLaters_2, e82, h19, h9]
      refine zp_ite (fun q => zp_some (Or.inl ⟨fr, fun l' hl' => res l' ?_⟩)) fun q => zp_ite (fun q2 => absurd rfl q2) fun _ => ?_
      · have := (zo_le (by omega) (by omega)).mp q
        omega
      have lt : l < nz := by
        rw [zo_le (by omega) (by omega)] at q
        omega
      have nmt' : ∀ t, t < nt → Nm ν (10 + t) (wt t) := fun t ht => (nmt t ht).of (fun i _ => by rw [fr 85 (by decide)]) (by rw [fr 86 (by decide)])
      have nmz' : ∀ l, l < nz → Nm ν (17 + l) (wz l) := fun l hl => (nmz l hl).of (fun i _ => by rw [fr 85 (by decide)]) (by rw [fr 86 (by decide)])
      have e17 : 17 + Int32.ofNat l = Int32.ofNat (17 + l) := zo_plus (i := 17) rfl (by omega)
      have go21 : ∀ (m t : Nat) (v2 : Int32), t ≤ nt → ((v2 = -1 ∧ ∀ k, k < t → wt k ≠ wz l) ∨ (∃ k, k < t ∧ v2 = Int32.ofNat k ∧ wt k = wz l)) → zp (zb_M_findLaters_21 (zb_M_findLaters_2 N n) N m ν (Int32.ofNat l) v2 (Int32.ofNat t)) (fun s => ((∀ q, q ≠ 93 → s q = μ q) ∧ ∀ l, l < nz → ∃ k, k < nt ∧ wt k = wz l) ∨ (∃ l0, l0 < nz ∧ (∀ k, k < nt → wt k ≠ wz l0) ∧ (∀ l, l < l0 → ∃ k, k < nt ∧ wt k = wz l) ∧ MFl s (μ 87 l0))) := by
        intro m
        induction m with
        | zero => intro _ _ _ _; exact zp_none
        | succ m ihm =>
          intro t v2 ht hv
          rw [zb_M_findLaters_21, e82, h17]
          refine zp_ite (fun q => ?_) fun q => ?_
          · have et : t = nt := by
              have := (zo_le (by omega) (by omega)).mp q
              omega
            subst et
            refine zp_ite (fun z => p_M_fl167 fun ν' f' => ?_) fun z => zp_chk fun _ => p_M_fl167 fun ν' f' => ?_
            · rw [zo_1 (by omega)]
              refine ih (l + 1) ν' (by omega) (fun l' hl' => ?_) (fun q hq => by rw [f' q hq, fr q hq])
              by_cases e : l' = l
              · rcases hv with ⟨e1, _⟩ | ⟨k, k1, _, k3⟩
                · exact absurd e1 z
                · rw [e]; exact ⟨k, k1, k3⟩
              · exact res l' (by omega)
            · have e93 := f' 82 (by decide)
              have f9 : ν' 82 9 = 1 := by rw [e93, zx_up_same, zu_ne (by decide), zx_up_same, zu_ne (by decide), zx_up_same, zu_eq]
              have f11 : ν' 82 11 = μ 87 l := by rw [e93, zx_up_same, zu_eq, fr 87 (by decide), zo_n (by omega)]
              have un : ∀ k, k < t → wt k ≠ wz l := by
                rcases hv with ⟨_, h⟩ | ⟨k, k1, k2, _⟩
                · exact h
                · exact absurd (k2.symm.trans (Classical.not_not.mp z)) (zo_ne (by omega))
              have done : zp (some ν') (fun s => ((∀ q, q ≠ 93 → s q = μ q) ∧ ∀ l, l < nz → ∃ k, k < t ∧ wt k = wz l) ∨ (∃ l0, l0 < nz ∧ (∀ k, k < t → wt k ≠ wz l0) ∧ (∀ l, l < l0 → ∃ k, k < t ∧ wt k = wz l) ∧ MFl s (μ 87 l0))) := zp_some (Or.inr ⟨l, lt, un, res, by rw [f9]; decide, f11⟩)
              cases n with
              | zero => exact zp_none
              | succ n =>
                rw [zb_M_findLaters_2]
                exact zp_ite (fun _ => done) fun _ => zp_ite (fun _ => done) fun q => absurd (Classical.not_not.mp q) (by rw [f9]; decide)
          · have tn : t < nt := by
              rw [zo_le (by omega) (by omega)] at q
              omega
            have e10 : 10 + Int32.ofNat t = Int32.ofNat (10 + t) := zo_plus (i := 10) rfl (by omega)
            rw [e10, e17, zo_n (m := 10 + t) (by omega), zo_n (m := 17 + l) (by omega)]
            have hit := fun (x : Int32) hx0 hx1 => p_M_fl60 (k21 := zb_M_findLaters_21 (zb_M_findLaters_2 N n) N m) (N := N) (v2 := v2) (Q := fun s => ((∀ q, q ≠ 93 → s q = μ q) ∧ ∀ l, l < nz → ∃ k, k < nt ∧ wt k = wz l) ∨ (∃ l0, l0 < nz ∧ (∀ k, k < nt → wt k ≠ wz l0) ∧ (∀ l, l < l0 → ∃ k, k < nt ∧ wt k = wz l) ∧ MFl s (μ 87 l0))) (l := l) (t := t) (by omega) (by omega) (nmt' t tn) (nmz' l lt) (fun ne => ihm (t + 1) v2 (by omega) (by
                rcases hv with ⟨e1, h⟩ | ⟨k, k1, k2, k3⟩
                · refine Or.inl ⟨e1, fun k hk => ?_⟩
                  by_cases e : k = t
                  · rw [e]; exact ne
                  · exact h k (by omega)
                · exact Or.inr ⟨k, by omega, k2, k3⟩)) (fun eq => ihm (t + 1) _ (by omega) (Or.inr ⟨t, by omega, rfl, eq⟩)) N 0 x (by omega) hx0 hx1
            unfold zb_M_findLaters_55
            refine zp_chk fun _ => zp_chk fun _ => zp_ite (fun d => ?_) fun d => ?_
            · exact hit 0 (fun _ x => d (((nmt' t tn).same2 (nmz' l lt)).mp x).1) (fun x => absurd rfl x)
            · exact hit 1 (fun x => absurd x (by decide)) (fun _ => ⟨Classical.not_not.mp d, fun j hj => absurd hj (Nat.not_lt_zero _)⟩)
      exact go21 N 0 (-1) (Nat.zero_le _) (Or.inl ⟨rfl, fun k hk => absurd hk (Nat.not_lt_zero _)⟩)
  exact go2 N 0 μ (Nat.zero_le _) (fun l hl => absurd hl (Nat.not_lt_zero _)) (fun _ _ => rfl)
theorem z_dm96 : ∀ q : Fin 96, Int32.ofNat q.val / 24 = Int32.ofNat (q.val / 24) ∧ zJ_rem (Int32.ofNat q.val) 24 = Int32.ofNat (q.val % 24) := by decide +kernel
theorem p_X_slotOf2 {ρ : zS} {t s : Nat} (ht : t < 4) (hs : s < 24) : zp (zf_Program_slotOf ρ (Int32.ofNat t) (Int32.ofNat s)) (fun r => (Int32.ofNat s < ρ 5 t ∧ r = Int32.ofNat (24 * t + s)) ∨ (¬ Int32.ofNat s < ρ 5 t ∧ r = 96)) := by
  by_cases h : Int32.ofNat s < ρ 5 t
  · exact zp_mono (p_X_slotOf ht hs h) fun r hr => Or.inl ⟨h, hr⟩
  · unfold zf_Program_slotOf zb_Program_slotOf_33 zb_Program_slotOf_34
    rw [zo_n (m := t) (by omega)]
    have n5 : ρ 5 t ≤ Int32.ofNat s := Int32.not_lt.mp h
    have A : zp (if (0 : Int32) = 0 then some (96 : Int32) else some (Int32.ofNat t * 24 + Int32.ofNat s)) (fun r => (Int32.ofNat s < ρ 5 t ∧ r = Int32.ofNat (24 * t + s)) ∨ (¬ Int32.ofNat s < ρ 5 t ∧ r = 96)) := zp_ite (fun _ => zp_some (Or.inr ⟨h, rfl⟩)) fun q => absurd rfl q
    intro r hr
    simp only [n5, if_true] at hr
    have : r = 96 := by
      repeat' split at hr
      all_goals first | (cases hr; rfl) | (simp at hr) | (simp at hr; grind)
    exact Or.inr ⟨h, this⟩
def FT0 (ρ r : zS) : Prop := ∀ q, q ≠ 6 → q ≠ 8 → r q = ρ q
theorem p_X_findThreads {N : Nat} {c : Nat → Nat} {ws : Nat → Nat → Int64} {len : Nat → Nat} {ρ : zS} {τ : zT} {μ : zS} (ns : NX3 c ws ρ τ) (pk : PKW c len 0 ρ μ) (h17 : ρ 17 6 = 0) : zp (zb_Reader_readText_93 N ρ τ) (fun r => r.2 = τ ∧ ((FT0 ρ r.1 ∧ ∀ q, SJ c len μ q → ∃ k, k < c 2 ∧ ws 2 k = τ 23 q) ∨ (∃ q0, SJ c len μ q0 ∧ (∀ k, k < c 2 → ws 2 k ≠ τ 23 q0) ∧ (∀ q, SJ c len μ q → q < q0 → ∃ k, k < c 2 ∧ ws 2 k = τ 23 q) ∧ XFl r.1 (ρ 24 q0)))) := by
  have c24 : c 2 ≤ 4 := (ns.1 2 (by decide)).1
  unfold zb_Reader_readText_93
  have go : ∀ (n q : Nat) (r : zS), q ≤ 96 → FT0 ρ r → (∀ q', q' < q → SJ c len μ q' → ∃ k, k < c 2 ∧ ws 2 k = τ 23 q') → zp (zb_Reader_readText_95 N n r τ (Int32.ofNat q)) (fun r => r.2 = τ ∧ ((FT0 ρ r.1 ∧ ∀ q, SJ c len μ q → ∃ k, k < c 2 ∧ ws 2 k = τ 23 q) ∨ (∃ q0, SJ c len μ q0 ∧ (∀ k, k < c 2 → ws 2 k ≠ τ 23 q0) ∧ (∀ q, SJ c len μ q → q < q0 → ∃ k, k < c 2 ∧ ws 2 k = τ 23 q) ∧ XFl r.1 (ρ 24 q0)))) := by
    intro n
    induction n with
    | zero => intro _ _ _ _ _; exact zp_none
    | succ n ih =>
      intro q r hq fr res
      have e17 : r 17 6 = 0 := by rw [fr 17 (by decide) (by decide)]; exact h17
      rw [zb_Reader_readText_95, e17]
      refine zp_ite (fun z => zp_some ⟨rfl, Or.inl ⟨fr, fun q' hq' => ?_⟩⟩) fun z => zp_ite (fun y => absurd rfl y) fun _ => ?_
      · have : 96 ≤ q := (zo_le (k := 96) (j := q) (by omega) (by omega)).mp z
        refine res q' ?_ hq'
        obtain ⟨⟨t, s, a1, a2, a3⟩, _⟩ := hq'
        have := (pk.1 t a1).1
        omega
      · have q96 : q < 96 := by
          have : ¬ 96 ≤ q := fun x => z ((zo_le (k := 96) (j := q) (by omega) (by omega)).mpr x)
          omega
        have dm := z_dm96 ⟨q, q96⟩
        dsimp only at dm
        unfold zf_Reader_findThread
        rw [dm.1, dm.2]
        have nxt : ∀ r', FT0 ρ r' → (SJ c len μ q → ∃ k, k < c 2 ∧ ws 2 k = τ 23 q) → zp (zb_Reader_readText_95 N n r' τ (Int32.ofNat q + 1)) (fun r => r.2 = τ ∧ ((FT0 ρ r.1 ∧ ∀ q, SJ c len μ q → ∃ k, k < c 2 ∧ ws 2 k = τ 23 q) ∨ (∃ q0, SJ c len μ q0 ∧ (∀ k, k < c 2 → ws 2 k ≠ τ 23 q0) ∧ (∀ q, SJ c len μ q → q < q0 → ∃ k, k < c 2 ∧ ws 2 k = τ 23 q) ∧ XFl r.1 (ρ 24 q0)))) := by
          intro r' fr' h
          rw [zo_1 (by omega)]
          refine ih (q + 1) r' (by omega) fr' fun q' hq' sj => ?_
          by_cases e : q' = q
          · rw [e] at sj ⊢; exact h sj
          · exact res q' (by omega) sj
        refine zp_bind (zp_bind (zp_mono (p_X_slotOf2 (by omega) (by omega)) fun r1 h1 => ?_))
        rw [fr 5 (by decide) (by decide)] at h1
        have used : SJ c len μ q → Int32.ofNat (q % 24) < ρ 5 (q / 24) := by
          rintro ⟨⟨t, s, a1, a2, a3⟩, _⟩
          obtain ⟨b1, b2, _⟩ := pk.1 t a1
          have et : q / 24 = t := by omega
          have es : q % 24 = s := by omega
          rw [et, es, b2]
          exact (zo_lt (by omega) (by omega)).mpr a2
        rcases h1 with ⟨lt, e1⟩ | ⟨nl, e1⟩
        · have eq : 24 * (q / 24) + q % 24 = q := by omega
          rw [eq] at e1
          subst e1
          rw [zo_n (by omega), fr 7 (by decide) (by decide)]
          have tc : q / 24 < c 2 ∧ q % 24 < len (q / 24) := by
            by_cases x : q / 24 < c 2
            · obtain ⟨b1, b2, _⟩ := pk.1 (q / 24) x
              rw [b2] at lt
              exact ⟨x, (zo_lt (by omega) (by omega)).mp lt⟩
            · rw [pk.2.1 (q / 24) (by omega) (by omega)] at lt
              have := (zo_lt (k := q % 24) (j := 0) (by omega) (by omega)).mp lt
              omega
          have kd : ρ 7 q = μ 92 q := by
            have := pk.2.2.2.2.2.2 (q / 24) (q % 24) tc.1 tc.2
            rw [eq] at this
            exact this
          have f45 : (ρ 7 q = 10 ∨ ρ 7 q = 11) → zp (zb_Reader_findThread_45 N r τ (Int32.ofNat q)) (fun r8 => zp (zb_Reader_readText_95 N n r8 τ (Int32.ofNat q + 1)) (fun r => r.2 = τ ∧ ((FT0 ρ r.1 ∧ ∀ q, SJ c len μ q → ∃ k, k < c 2 ∧ ws 2 k = τ 23 q) ∨ (∃ q0, SJ c len μ q0 ∧ (∀ k, k < c 2 → ws 2 k ≠ τ 23 q0) ∧ (∀ q, SJ c len μ q → q < q0 → ∃ k, k < c 2 ∧ ws 2 k = τ 23 q) ∧ XFl r.1 (ρ 24 q0))))) := by
            intro hk
            have sj : SJ c len μ q := ⟨⟨q / 24, q % 24, tc.1, tc.2, eq.symm⟩, by rw [← kd]; exact hk⟩
            have ns' : NX3 c ws r τ := ns.of (fun s _ => by rw [fr 4 (by decide) (by decide)]) (by rw [fr 18 (by decide) (by decide)]) (fr 20 (by decide) (by decide)) (fr 21 (by decide) (by decide)) rfl
            unfold zb_Reader_findThread_45
            rw [zo_n (by omega)]
            refine zp_chk fun _ => zp_bind (zp_mono (p_X_numberOf3 (s := 2) ns' (by decide)) fun r6 h6 => zp_ite (fun x => ?_) fun x => zp_chk fun _ => zp_some ?_)
            · have st : zp (zf_Program_setThread r (Int32.ofNat q) r6) (fun r8 => FT0 ρ r8) := by
                unfold zf_Program_setThread
                refine zp_ite (fun _ => zp_some fr) fun _ => zp_ite (fun _ => zp_some fr) fun _ => zp_ite (fun _ => zp_some fr) fun _ => zp_ite (fun _ => zp_some fr) fun _ => zp_chk fun _ => zp_chk fun _ => zp_ite (fun _ => zp_some fun p a b => ?_) fun _ => zp_chk fun _ => zp_chk fun _ => zp_some fun p a b => ?_
                · rw [zu_other b]; exact fr p a b
                · rw [zu_other a, zu_other b]; exact fr p a b
              refine zp_bind (zp_mono st fun r8 f8 => zp_some (nxt r8 f8 fun _ => ?_))
              rcases h6 with ⟨e6, _⟩ | ⟨k, k1, _, k3, _⟩
              · exact absurd e6 x
              · exact ⟨k, k1, k3⟩
            · have un : ∀ k, k < c 2 → ws 2 k ≠ τ 23 q := (h6.no (by omega)).mp (Classical.not_not.mp x)
              have fl : XFl (zx_up (zx_up r 17 6 5) 17 7 (r 24 q)) (ρ 24 q) := by
                refine ⟨?_, ?_⟩
                · rw [zx_up_same, zu_ne (by decide), zx_up_same, zu_eq]; decide
                · rw [zx_up_same, zu_eq, fr 24 (by decide) (by decide)]
              have done : zp (some (zx_up (zx_up r 17 6 5) 17 7 (r 24 q), τ)) (fun r => r.2 = τ ∧ ((FT0 ρ r.1 ∧ ∀ q, SJ c len μ q → ∃ k, k < c 2 ∧ ws 2 k = τ 23 q) ∨ (∃ q0, SJ c len μ q0 ∧ (∀ k, k < c 2 → ws 2 k ≠ τ 23 q0) ∧ (∀ q, SJ c len μ q → q < q0 → ∃ k, k < c 2 ∧ ws 2 k = τ 23 q) ∧ XFl r.1 (ρ 24 q0)))) := zp_some ⟨rfl, Or.inr ⟨q, sj, un, fun q' sj' lt' => res q' lt' sj', fl⟩⟩
              cases n with
              | zero => exact zp_none
              | succ n =>
                rw [zb_Reader_readText_95]
                exact zp_ite (fun _ => done) fun _ => zp_ite (fun _ => done) fun y => absurd (Classical.not_not.mp y) fl.1
          refine zp_chk fun _ => zp_ite (fun x => ?_) fun _ => zp_ite (fun k10 => f45 (Or.inl k10)) fun k10 => zp_ite (fun k11 => f45 (Or.inr k11)) fun k11 => zp_some (nxt r fr fun sj => ?_)
          · have := (zo_le (k := 96) (j := q) (by omega) (by omega)).mp x
            omega
          · have := sj.2
            rw [← kd] at this
            exact absurd this (fun x => x.elim k10 k11)
        · subst e1
          exact zp_chk fun _ => zp_ite (fun _ => zp_some (nxt r fr fun sj => absurd (used sj) nl)) fun x => absurd (by decide) x
  exact go N 0 ρ (Nat.zero_le _) (fun _ _ _ => rfl) fun q hq => absurd hq (Nat.not_lt_zero _)
def PRG (ρ μ : zS) : Prop := ∃ (c len : Nat → Nat), c 2 ≤ 4 ∧ (∀ s, s < 3 → ρ 4 s = Int32.ofNat (c s) ∧ μ 82 (15 + s) = Int32.ofNat (c s)) ∧ (∀ t, t < c 2 → len t ≤ 24 ∧ ρ 5 t = Int32.ofNat (len t) ∧ μ 90 t = Int32.ofNat (len t)) ∧ (∀ t, c 2 ≤ t → t < 4 → ρ 5 t = 0) ∧ ρ 4 4 = Int32.ofNat (sumL len (c 2)) ∧ ρ 4 3 = μ 82 25
def FIN (r : zS × zT) (s : Int32 × zS) : Prop := (∃ p, XFl r.1 p ∧ s.1 = -1000 - p ∧ s.2 82 21 = 0) ∨ (r.1 17 6 = 0 ∧ s.1 = r.1 4 4 ∧ s.2 82 21 = 1 ∧ PRG r.1 s.2)
theorem p_M_allSteps {N nt : Nat} {len : Nat → Nat} {μ : zS} (h17 : μ 82 17 = Int32.ofNat nt) (t4 : nt ≤ 4) (h : ∀ t, t < nt → len t ≤ 24 ∧ μ 90 t = Int32.ofNat (len t)) : zp (zf_M_allSteps N μ) (fun r => r = Int32.ofNat (sumL len nt)) := by
  unfold zf_M_allSteps
  have go : ∀ (n t : Nat), t ≤ nt → zp (zb_M_allSteps_4 N n μ (Int32.ofNat (sumL len t)) (Int32.ofNat t)) (fun r => r = Int32.ofNat (sumL len nt)) := by
    intro n
    induction n with
    | zero => intro _ _; exact zp_none
    | succ n ih =>
      intro t ht
      rw [zb_M_allSteps_4, h17]
      refine zp_ite (fun q => zp_some ?_) fun q => zp_chk fun _ => ?_
      · have := (zo_le (by omega) (by omega)).mp q
        rw [show t = nt by omega]
      · have lt : t < nt := by
          rw [zo_le (by omega) (by omega)] at q
          omega
        have b := sumL_le (len := len) t (fun j hj => (h j (by omega)).1)
        have l := (h t lt).1
        rw [zo_n (by omega), (h t lt).2, zo_plus rfl (by omega), zo_1 (by omega)]
        exact ih (t + 1) (by omega)
  exact go N 0 (Nat.zero_le _)
theorem p_F_244 {N : Nat} {μ : zS} {p : Int32} (h : MFl μ p) : zp (zb_M_read_244 N μ) (fun s => s.1 = -1000 - p ∧ s.2 82 21 = 0) := by
  unfold zb_M_read_244 zb_M_read_255 zb_M_read_268
  refine zp_ite (fun _ => zp_ite (fun _ => zp_chk fun _ => zp_ite (fun q => absurd q h.1) fun _ => zp_some ⟨?_, ?_⟩) fun q => absurd (Classical.not_not.mp q) h.1) fun q => absurd (Classical.not_not.mp q) h.1
  · rw [h.2]
  · dsimp only
    rw [zx_up_same, zu_ne (by decide), zx_up_same, zu_eq]
theorem p_F_226 {N : Nat} {μ : zS} {p : Int32} (h : MFl μ p) : zp (zb_M_read_226 N μ) (fun s => s.1 = -1000 - p ∧ s.2 82 21 = 0) := by
  unfold zb_M_read_226
  exact zp_ite (fun _ => p_F_244 h) fun q => absurd (Classical.not_not.mp q) h.1
theorem p_F_204 {N m : Nat} {μ : zS} {p : Int32} (h : MFl μ p) : zp (zb_M_read_204 N m μ) (fun s => s.1 = -1000 - p ∧ s.2 82 21 = 0) := by
  cases m with
  | zero => exact zp_none
  | succ m =>
    rw [zb_M_read_204]
    exact zp_ite (fun _ => p_F_226 h) fun q => absurd (Classical.not_not.mp q) h.1
theorem p_F_105 {N m : Nat} {μ : zS} {p : Int32} (h : MFl μ p) : zp (zb_M_read_105 N m μ) (fun s => s.1 = -1000 - p ∧ s.2 82 21 = 0) := by
  cases m with
  | zero => exact zp_none
  | succ m =>
    rw [zb_M_read_105]
    exact zp_ite (fun _ => p_F_204 h) fun q => absurd (Classical.not_not.mp q) h.1
theorem p_XF_42 {N n : Nat} {ρ : zS} {τ : zT} {v p : Int32} (h : XFl ρ p) : zp (zb_Reader_readText_42 N n ρ τ v) (fun r => XFl r.1 p) := by
  have A : zp (zb_Reader_readText_93 N ρ τ) (fun r => XFl r.1 p) := by
    unfold zb_Reader_readText_93
    cases N with
    | zero => exact zp_none
    | succ N =>
      rw [zb_Reader_readText_95]
      exact zp_ite (fun _ => zp_some h) fun _ => zp_ite (fun _ => zp_some h) fun q => absurd (Classical.not_not.mp q) h.1
  cases n with
  | zero => exact zp_none
  | succ n =>
    rw [zb_Reader_readText_42]
    exact zp_ite (fun _ => A) fun _ => zp_ite (fun _ => A) fun q => absurd (Classical.not_not.mp q) h.1
theorem p_end {T : TS} {a N N' : Nat} {c : Nat → Nat} {ws : Nat → Nat → Int64} {len : Nat → Nat} {ρ : zS} {τ : zT} {μ : zS} (rt : RT T a c ws len ρ τ μ) : zp (zb_Reader_readText_93 N ρ τ) (fun r => zp (zb_M_read_244 N' μ) (fun s => FIN r s)) := by
  obtain ⟨sx, sm, ns, nm, pk, la⟩ := rt
  obtain ⟨nz, wz, SL, h1, h2, h3, h4, h5⟩ := la
  have c24 : c 2 ≤ 4 := (ns.1 2 (by decide)).1
  have h9 := sm.2.2.2
  refine zp_mono (p_X_findThreads ns pk sx.2) ?_
  rintro r ⟨-, hr⟩
  unfold zb_M_read_244
  refine zp_ite (fun q => absurd h9 q) fun _ => zp_bind (zp_mono (p_M_findLaters (N := N') (wt := ws 2) h9 h2 h1 (nm 2 (by decide)).2.1 c24 (fun t ht => (nm 2 (by decide)).2.2 t ht) (fun l hl => (h3 l hl).1)) fun s hs => ?_)
  have word : ∀ q, SJ c len μ q → (∀ l, l < nz → ∃ k, k < c 2 ∧ ws 2 k = wz l) → ∃ k, k < c 2 ∧ ws 2 k = τ 23 q := by
    intro q sj all
    rcases h5 q sj with ⟨k, k1, _, k3⟩ | ⟨l, l1, _, l3, _⟩
    · exact ⟨k, k1, k3⟩
    · obtain ⟨k, k1, k2⟩ := all l l1
      exact ⟨k, k1, k2.trans l3⟩
  rcases hr with ⟨fr, res⟩ | ⟨q0, sj0, un0, les0, fl0⟩
  · rcases hs with ⟨fs, all⟩ | ⟨l0, l1, l2, l3, fls⟩
    · have e82 := fs 82 (by decide)
      have e9 : s 82 9 = 0 := by rw [e82]; exact h9
      unfold zb_M_read_255 zb_M_read_268
      have m17 : (zx_up (zx_up s 82 21 1) 82 12 (s 82 10)) 82 17 = Int32.ofNat (c 2) := by rw [zx_up_same, zu_ne (by decide), zx_up_same, zu_ne (by decide), e82]; exact (nm 2 (by decide)).2.1
      have m90 : (zx_up (zx_up s 82 21 1) 82 12 (s 82 10)) 90 = μ 90 := by rw [zu_other (by decide), zu_other (by decide), fs 90 (by decide)]
      refine zp_ite (fun q => absurd e9 q) fun _ => zp_chk fun _ => zp_ite (fun _ => zp_bind (zp_mono (p_M_allSteps (len := len) m17 c24 fun t ht => ⟨(pk.1 t ht).1, by rw [m90]; exact (pk.1 t ht).2.2⟩) fun u hu => zp_some (Or.inr ⟨?_, ?_, ?_, c, len, c24, fun s' hs' => ⟨?_, ?_⟩, fun t ht => ?_, fun t a b => ?_, ?_, ?_⟩))) fun q => absurd e9 q
      · rw [fr 17 (by decide) (by decide)]; exact sx.2
      · dsimp only
        rw [hu, fr 4 (by decide) (by decide)]; exact pk.2.2.1.symm
      · dsimp only
        rw [zx_up_same, zu_ne (by decide), zx_up_same, zu_eq]
      · rw [fr 4 (by decide) (by decide)]; exact (ns.1 s' hs').2
      · dsimp only
        rw [zx_up_same, zu_ne (by omega), zx_up_same, zu_ne (by omega), e82]; exact (nm s' hs').2.1
      · dsimp only
        rw [fr 5 (by decide) (by decide), m90]; exact pk.1 t ht
      · rw [fr 5 (by decide) (by decide)]; exact pk.2.1 t a b
      · rw [fr 4 (by decide) (by decide)]; exact pk.2.2.1
      · dsimp only
        rw [fr 4 (by decide) (by decide), zx_up_same, zu_ne (by decide), zx_up_same, zu_ne (by decide), e82]; exact pk.2.2.2.1.1
    · exfalso
      obtain ⟨b1, b2, b3, b4⟩ := h3 l0 l1
      obtain ⟨k, k1, k2⟩ := res _ b2
      exact l2 k k1 (k2.trans b3)
  · rcases hs with ⟨fs, all⟩ | ⟨l0, l1, l2, l3, fls⟩
    · exfalso
      obtain ⟨k, k1, k2⟩ := word q0 sj0 all
      exact un0 k k1 k2
    · obtain ⟨b1, b2, b3, b4⟩ := h3 l0 l1
      have ge : ¬ SL l0 < q0 := by
        intro lt
        obtain ⟨k, k1, k2⟩ := les0 _ b2 lt
        exact l2 k k1 (k2.trans b3)
      have le : SL l0 ≤ q0 := by
        rcases h5 q0 sj0 with ⟨k, k1, _, k3⟩ | ⟨l, l1', _, l3', l4'⟩
        · exact absurd k3 (un0 k k1)
        · have nl : ¬ l < l0 := by
            intro x
            obtain ⟨k, k1, k2⟩ := l3 l x
            exact un0 k k1 (k2.trans l3')
          by_cases e : l = l0
          · rw [← e]; exact l4'
          · exact Nat.le_of_lt (Nat.lt_of_lt_of_le (h4 l0 l (by omega) l1') l4')
      have eq : SL l0 = q0 := by omega
      rw [← eq, b4] at fl0
      have t : zp (zb_M_read_255 N' s) (fun s => s.1 = -1000 - μ 87 l0 ∧ s.2 82 21 = 0) := by
        have := p_F_244 (N := N') fls
        unfold zb_M_read_244 at this
        rw [if_pos fls.1] at this
        exact this
      exact zp_mono t fun u hu => Or.inl ⟨_, fl0, hu⟩
theorem zp_unbind {α β : Type} {o : Option α} {f : α → Option β} {Q : β → Prop} (h : zp (o.bind f) Q) : zp o (fun a => zp (f a) Q) := by
  intro a e b e'
  refine h b ?_
  rw [e]
  exact e'
theorem p_M_178 {N : Nat} {μ : zS} : ∀ (n : Nat) (ν : zS) (v : Int32), WY μ ν → zp (zb_M_readThread_178 N n ν v) (fun s => WY μ s) := by
  intro n
  induction n with
  | zero => intro _ _ _; exact zp_none
  | succ n ih =>
    intro ν v h
    have A : ∀ s0 s1, zp (zb_M_readThread_235 (zb_M_readThread_178 N n) N ν v s0 s1) (fun s => WY μ s) := fun s0 s1 => by
      unfold zb_M_readThread_235
      exact zp_chk fun _ => ih _ _ ⟨fun q a b c d => by rw [zu_other b]; exact h.1 q a b c d, fun i hi => by rw [zu_other (by decide)]; exact h.2 i hi⟩
    rw [zb_M_readThread_178]
    exact zp_chk fun _ => zp_ite (fun _ => zp_some h) fun _ => zp_chk fun _ => zp_ite (fun _ => zp_chk fun _ => A _ _) fun _ => zp_chk fun _ => A _ _
theorem p_M_155 {N : Nat} {μ : zS} (h9 : μ 82 9 = 0) : zp (zb_M_readThread_155 N μ) (fun s => WY μ s) := by
  unfold zb_M_readThread_155
  exact zp_ite (fun _ => zp_chk fun _ => zp_bind (zp_mono p_M_lead0 fun r hr => p_M_178 N r 0 hr.wy)) fun q => absurd h9 q
theorem RLX.rt {T : TS} {a : Nat} {c : Nat → Nat} {ws : Nat → Nat → Int64} {nv : Nat} {wv : Nat → Int64} {len : Nat → Nat} {ρ : zS} {τ : zT} {μ ν : zS} (h : RLX T a c ws nv wv len 0 ρ τ μ) (w : WY μ ν) : RT T a c ws len ρ τ ν := by
  obtain ⟨sx, sm, ns, nm, pk, la⟩ := h
  have n : ∀ q, q = 85 ∨ q = 86 ∨ q = 87 ∨ q = 90 ∨ q = 92 ∨ q = 93 → ν q = μ q := fun q hq => w.1 q (by omega) (by omega) (by omega) (by omega)
  exact ⟨sx, sm.wy w, ns.1.n3, (show NM3 c ws μ from nm.1).of (fun i hi => w.2 i (by omega)) (fun p _ => by rw [n 86 (by decide)]) (fun p _ => by rw [n 85 (by decide)]), pk.congr rfl (fun _ _ => rfl) ⟨rfl, rfl⟩ rfl (fun q hq => n q (by omega)) (w.2 25 (by decide)), la.of rfl rfl (w.2 19 (by decide)) (n 87 (by decide)) (n 92 (by decide)) (n 93 (by decide)) (fun p _ => by rw [n 86 (by decide)]) (fun p _ => by rw [n 85 (by decide)])⟩
theorem p_loop {T : TS} {N N' : Nat} : ∀ (n : Nat) (ρ : zS) (τ : zT) (tv a : Nat), tv ≤ a →
    (∀ c ws len μ m, c 2 = 0 → RT T a c ws len ρ τ μ → zp (zb_Reader_readText_42 N n ρ τ (Int32.ofNat tv)) (fun r => zp (zb_M_read_105 N' m μ) (fun s => FIN r s))) ∧
    (∀ c ws len μ m, 0 < c 2 → RT T a c ws len ρ τ μ → zp (zb_Reader_readText_42 N n ρ τ (Int32.ofNat tv)) (fun r => zp (zb_M_read_204 N' m μ) (fun s => FIN r s))) ∧
    (∀ c ws nv wv len d μ m j, 0 < d → RLX T a c ws nv wv len d ρ τ μ → zp (zb_Reader_readText_42 N n ρ τ (Int32.ofNat tv)) (fun r => zp ((zb_M_readThread_118 N' m μ).bind fun r16 => zb_M_read_204 N' j r16) (fun s => FIN r s))) := by
  intro n
  induction n with
  | zero => intro _ _ _ _ _; exact ⟨fun _ _ _ _ _ _ _ => zp_none, fun _ _ _ _ _ _ _ => zp_none, fun _ _ _ _ _ _ _ _ _ _ _ => zp_none⟩
  | succ n ih =>
    intro ρ τ tv a hv
    have FA : ∀ {r : zS × zT} {μ : zS} {p : Int32} {m : Nat}, XFl r.1 p → MFl μ p → zp (zb_M_read_105 N' m μ) (fun s => FIN r s) := fun x f => zp_mono (p_F_105 f) fun s hs => Or.inl ⟨_, x, hs⟩
    have FB : ∀ {r : zS × zT} {μ : zS} {p : Int32} {m : Nat}, XFl r.1 p → MFl μ p → zp (zb_M_read_204 N' m μ) (fun s => FIN r s) := fun x f => zp_mono (p_F_204 f) fun s hs => Or.inl ⟨_, x, hs⟩
    have THR : ∀ c ws len μ m, RT T a c ws len ρ τ μ → T.1 a = 303 → zp (zf_Reader_tellThread N ρ τ) (fun r => zp (zb_Reader_readText_42 N n r.1 r.2 (Int32.ofNat tv + 1)) (fun r' => zp (zb_M_read_204 N' m μ) (fun s => FIN r' s))) := by
      intro c ws len μ m rt hk
      have sm := rt.2.1
      refine zp_mono (t_thread (N' := N') rt hk) fun r hr => fun r' e' => ?_
      cases m with
      | zero => exact zp_none
      | succ m =>
        rw [zb_M_read_204]
        refine zp_ite (fun q => absurd sm.2.2.2 q) fun _ => zp_bind (zp_mono (p_M_isWord sm.d (c := 4) (by decide)) fun u hu => zp_ite (fun q => ?_) fun _ => zp_bind (hr (fun s p x f => ?_) fun s a' c' ws' len' lt rl => ?_))
        · rcases hu with hu | hu
          · exact absurd hk hu.2
          · rw [hu.1] at q; exact absurd q (by decide)
        · exact FB (p_XF_42 x r' e') f
        · have tm : tv ≤ 1500 := by
            have := rt.1.1.2.2.2.2.2.2.2.2
            have := sm.1.2.2.2.2.1
            omega
          rw [zo_1 (by omega)] at e'
          exact zp_unbind ((ih r.1 r.2 (tv + 1) a' (by omega)).2.2 c' ws' 0 _ len' 1 s N' m (by decide) rl r' e')
    have BAD : ∀ {μ : zS}, SX T a ρ τ → SM T a μ → ∀ {Q : zS × zT → Prop}, (∀ r', XFl r'.1 (T.2.1 a) → Q r') → zp ((zf_Reader_failHere ρ 2).bind fun r5 => some (r5.2, τ)) (fun r => zp (zb_Reader_readText_42 N n r.1 r.2 (Int32.ofNat tv + 1)) Q) := by
      intro μ sx sm Q h
      refine zp_bind (zp_mono (p_X_fail (by decide)) fun r hr => zp_some ?_)
      rw [sx.p] at hr
      exact zp_mono (p_XF_42 hr.2) fun r' h' => h r' h'
    have m226 : ∀ {μ : zS}, SM T a μ → ¬ T.1 a = 0 → ∀ {r : zS × zT}, XFl r.1 (T.2.1 a) → zp (zb_M_read_226 N' μ) (fun s => FIN r s) := by
      intro μ sm hk r x
      unfold zb_M_read_226
      refine zp_ite (fun q => absurd sm.2.2.2 q) fun _ => zp_ite (fun q => absurd (sm.d.fin.mp q) hk) fun _ => zp_bind (zp_mono (p_M_cannot sm.2.2.2) fun s hs => ?_)
      rw [sm.p] at hs
      exact zp_mono (p_F_244 hs) fun s hs => Or.inl ⟨_, x, hs⟩
    have W : ∀ {μ : zS}, SM T a μ → ∀ (x k : Int32), k = x + 299 → 1 ≤ x ∧ x ≤ 15 → zp (zf_M_isWord μ x) (fun r => (r = 0 ∧ T.1 a ≠ k) ∨ (r = 1 ∧ T.1 a = k)) := fun sm x k e hx => by rw [e]; exact p_M_isWord sm.d hx
    have lim : ∀ {μ : zS}, SX T a ρ τ → SM T a μ → ¬ (1500 : Int32) < Int32.ofNat tv := by
      intro μ sx sm q
      have h1 := sx.1.2.2.2.2.2.2.2.2
      have h2 := sm.1.2.2.2.2.1
      have := (zo_lt (k := 1500) (j := tv) (by omega) (by omega)).mp q
      omega
    refine ⟨fun c ws len μ m c0 rt => ?_, fun c ws len μ m c1 rt => ?_, fun c ws nv wv len d μ m j hd rl => ?_⟩
    ·
      have sx := rt.1
      have sm := rt.2.1
      have tm : tv ≤ 1500 := by
        have := sx.1.2.2.2.2.2.2.2.2
        have := sm.1.2.2.2.2.1
        omega
      have d0 : ρ 29 6 = 0 := rt.2.2.2.2.1.2.2.2.2.1.2
      have e42 : ρ 4 2 = 0 := by rw [(rt.2.2.1.1 2 (by decide)).2, c0]; rfl
      rw [zb_Reader_readText_42]
      refine zp_ite (fun q => absurd q (lim sx sm)) fun _ => zp_ite (fun q => absurd sx.2 q) fun _ => zp_ite (fun _ => ?_) fun q => absurd (by rw [d0]; decide) q
      rw [sx.k]
      have ex204 : ∀ {r : zS × zT}, (¬ T.1 a = 300 ∧ ¬ T.1 a = 301 ∧ ¬ T.1 a = 302) → (∀ m', zp (zb_M_read_204 N' m' μ) (fun s => FIN r s)) → zp (zb_M_read_105 N' m μ) (fun s => FIN r s) := by
        intro r hk h
        cases m with
        | zero => exact zp_none
        | succ m =>
          rw [zb_M_read_105]
          refine zp_ite (fun q => absurd sm.2.2.2 q) fun _ => zp_bind (zp_mono (W sm 1 300 rfl (by decide)) fun u hu => zp_ite (fun q => ?_) fun _ => zp_bind (zp_mono (W sm 2 301 rfl (by decide)) fun u hu => zp_ite (fun q => ?_) fun _ => zp_bind (zp_mono (W sm 3 302 rfl (by decide)) fun u hu => zp_ite (fun _ => h N') fun q => ?_)))
          · rcases hu with hu | hu
            · exact absurd hu.1 q
            · exact absurd hu.2 hk.1
          · rcases hu with hu | hu
            · exact absurd hu.1 q
            · exact absurd hu.2 hk.2.1
          · rcases hu with hu | hu
            · exact absurd hu.1 q
            · exact absurd hu.2 hk.2.2
      have ex226 : ∀ {r : zS × zT}, (¬ T.1 a = 303) → zp (zb_M_read_226 N' μ) (fun s => FIN r s) → ∀ m', zp (zb_M_read_204 N' m' μ) (fun s => FIN r s) := by
        intro r hk h m'
        cases m' with
        | zero => exact zp_none
        | succ m' =>
          rw [zb_M_read_204]
          refine zp_ite (fun q => absurd sm.2.2.2 q) fun _ => zp_bind (zp_mono (W sm 4 303 rfl (by decide)) fun u hu => zp_ite (fun _ => h) fun q => ?_)
          rcases hu with hu | hu
          · exact absurd hu.1 q
          · exact absurd hu.2 hk
      refine zp_ite (fun k0 => ?_) fun k0 => ?_
      · refine zp_mono (p_end (N' := N') rt) fun r hr => ex204 (by rw [k0]; decide) (ex226 (by rw [k0]; decide) ?_)
        unfold zb_M_read_226
        exact zp_ite (fun q => absurd sm.2.2.2 q) fun _ => zp_ite (fun _ => hr) fun q => absurd (sm.d.fin.mpr k0) q
      · refine zp_bind ?_
        unfold zb_Reader_readText_87 zf_Reader_readTelling
        rw [sx.k]
        refine zp_ite (fun q => absurd e42 q) fun _ => ?_
        unfold zb_Reader_readTelling_23
        have nxt : ∀ {r : zS × zT} (m' : Nat) (s : zS), OUTT T a r.1 r.2 s → zp (zb_Reader_readText_42 N n r.1 r.2 (Int32.ofNat tv + 1)) (fun r' => zp (zb_M_read_105 N' m' s) (fun s => FIN r' s)) := by
          intro r m' s o
          rcases o with ⟨p, x, f⟩ | ⟨a', c', ws', len', lt, c0', rt'⟩
          · exact zp_mono (p_XF_42 x) fun r' h' => FA h' f
          · rw [zo_1 (by omega)]
            exact (ih r.1 r.2 (tv + 1) a' (by omega)).1 c' ws' len' s m' c0' rt'
        have fld : ∀ o, (T.1 a = 300 ∨ T.1 a = 301) → zp (zb_Reader_readTelling_55 N ρ τ o) (fun r => zp (zb_Reader_readText_42 N n r.1 r.2 (Int32.ofNat tv + 1)) (fun r' => zp (zb_M_read_105 N' m μ) (fun s => FIN r' s))) := by
          intro o hk
          have kk : ¬ T.1 a = 0 ∧ ¬ T.1 a = 1 := by rcases hk with h | h <;> rw [h] <;> decide
          unfold zb_Reader_readTelling_55
          refine zp_bind (fun r er => zp_some fun r' e' => ?_)
          have go136 : ∀ m', zp (zb_M_read_136 (zb_M_read_105 N' m') N' μ) (fun s => FIN r' s) := by
            intro m'
            unfold zb_M_read_136
            refine zp_bind (zp_mono (W sm 3 302 rfl (by decide)) fun u hu => zp_ite (fun _ => zp_bind fun r21 _ => zp_bind (zp_mono (t_field (N' := N') (x := r21) rt c0 kk r er) fun s hs => nxt m' s hs r' e')) fun q => ?_)
            rcases hu with hu | hu
            · exact absurd hu.1 q
            · rcases hk with h | h <;> rw [hu.2] at h <;> exact absurd h (by decide)
          cases m with
          | zero => exact zp_none
          | succ m =>
            rw [zb_M_read_105]
            refine zp_ite (fun q => absurd sm.2.2.2 q) fun _ => zp_bind (zp_mono (W sm 1 300 rfl (by decide)) fun u hu => zp_ite (fun _ => go136 m) fun q => zp_bind (zp_mono (W sm 2 301 rfl (by decide)) fun w hw => zp_ite (fun _ => go136 m) fun q2 => ?_))
            exfalso
            rcases hu with hu | hu
            · rcases hw with hw | hw
              · exact hk.elim hu.2 hw.2
              · exact q2 (by rw [hw.1]; decide)
            · exact q (by rw [hu.1]; decide)
        have f42 : (T.1 a = 300 ∨ T.1 a = 301) → zp (zb_Reader_readTelling_42 N ρ τ (T.1 a)) (fun r => zp (zb_Reader_readText_42 N n r.1 r.2 (Int32.ofNat tv + 1)) (fun r' => zp (zb_M_read_105 N' m μ) (fun s => FIN r' s))) := by
          intro hk
          unfold zb_Reader_readTelling_42
          exact zp_ite (fun _ => fld 0 hk) fun _ => fld 1 hk
        refine zp_ite (fun q => absurd q (by decide)) fun _ => zp_ite (fun k => f42 (Or.inl k)) fun n0 => zp_ite (fun n1 => ?_) fun n1 => f42 (Or.inr (Classical.not_not.mp n1))
        unfold zb_Reader_readTelling_61 zb_Reader_readTelling_79
        refine zp_ite (fun q => absurd q (by decide)) fun _ => zp_ite (fun n2 => zp_ite (fun n3 => ?_) fun n3 => ?_) fun n2 => ?_
        · exact BAD sx sm fun r' h' => ex204 ⟨n0, n1, n2⟩ (ex226 n3 (m226 sm k0 h'))
        · refine zp_bind (zp_mono (fun r er => er) fun r er => zp_some ?_)
          refine fun r' e' => ex204 ⟨n0, n1, n2⟩ fun m' => THR c ws len μ m' rt (Classical.not_not.mp n3) r er r' e'
        · have k2 : T.1 a = 302 := Classical.not_not.mp n2
          refine zp_bind (zp_mono (t_lock (N' := N') rt c0 k2) fun r hr => zp_some fun r' e' => ?_)
          cases m with
          | zero => exact zp_none
          | succ m =>
            have go := hr (Q := fun s => FIN r' s) (zb_M_read_105 N' m) fun s hs => nxt m s hs r' e'
            rw [zb_M_read_105]
            refine zp_ite (fun q => absurd sm.2.2.2 q) fun _ => zp_bind (zp_mono (W sm 1 300 rfl (by decide)) fun u hu => zp_ite (fun _ => go) fun q => zp_bind (zp_mono (W sm 2 301 rfl (by decide)) fun w hw => zp_ite (fun _ => go) fun q2 => zp_bind (zp_mono (W sm 3 302 rfl (by decide)) fun w hw => zp_ite (fun q3 => ?_) fun _ => go)))
            rcases hw with hw | hw
            · exact absurd k2 hw.2
            · rw [hw.1] at q3; exact absurd q3 (by decide)
    ·
      have sx := rt.1
      have sm := rt.2.1
      have d0 : ρ 29 6 = 0 := rt.2.2.2.2.1.2.2.2.2.1.2
      have e42 : ¬ ρ 4 2 = 0 := by
        rw [(rt.2.2.1.1 2 (by decide)).2]
        have := (rt.2.2.1.1 2 (by decide)).1
        have := cap_le 2
        intro q
        have := zo_inj (k := c 2) (j := 0) (by omega) (by omega) q
        omega
      rw [zb_Reader_readText_42]
      refine zp_ite (fun q => absurd q (lim sx sm)) fun _ => zp_ite (fun q => absurd sx.2 q) fun _ => zp_ite (fun _ => ?_) fun q => absurd (by rw [d0]; decide) q
      rw [sx.k]
      have ex226 : ∀ {r : zS × zT}, (¬ T.1 a = 303) → zp (zb_M_read_226 N' μ) (fun s => FIN r s) → zp (zb_M_read_204 N' m μ) (fun s => FIN r s) := by
        intro r hk h
        cases m with
        | zero => exact zp_none
        | succ m' =>
          rw [zb_M_read_204]
          refine zp_ite (fun q => absurd sm.2.2.2 q) fun _ => zp_bind (zp_mono (W sm 4 303 rfl (by decide)) fun u hu => zp_ite (fun _ => h) fun q => ?_)
          rcases hu with hu | hu
          · exact absurd hu.1 q
          · exact absurd hu.2 hk
      refine zp_ite (fun k0 => ?_) fun k0 => ?_
      · refine zp_mono (p_end (N' := N') rt) fun r hr => ex226 (by rw [k0]; decide) ?_
        unfold zb_M_read_226
        exact zp_ite (fun q => absurd sm.2.2.2 q) fun _ => zp_ite (fun _ => hr) fun q => absurd (sm.d.fin.mpr k0) q
      · refine zp_bind ?_
        unfold zb_Reader_readText_87 zf_Reader_readTelling zb_Reader_readTelling_23 zb_Reader_readTelling_61 zb_Reader_readTelling_79
        rw [sx.k]
        refine zp_ite (fun _ => zp_ite (fun _ => zp_ite (fun _ => zp_ite (fun n3 => ?_) fun n3 => ?_) fun q => absurd rfl q) fun q => absurd rfl q) fun q => absurd e42 q
        · exact BAD sx sm fun r' h' => ex226 n3 (m226 sm k0 h')
        · exact zp_bind (zp_mono (THR c ws len μ m rt (Classical.not_not.mp n3)) fun r hr => zp_some hr)
    ·
      have sx := rl.1
      have sm := rl.2.1
      have pk := rl.2.2.2.2.1
      have h6 := pk.2.2.2.2.1
      have h46 := (pk.2.2.2.2.2.1 hd).2.2.2.2.1
      have c1 := (pk.2.2.2.2.2.1 hd).1
      have tm : tv ≤ 1500 := by
        have := sx.1.2.2.2.2.2.2.2.2
        have := sm.1.2.2.2.2.1
        omega
      have dpos : ∀ x : Int32, x = Int32.ofNat d → ¬ x ≤ 0 := fun x e q => by
        rw [e] at q
        have := (zo_le (k := d) (j := 0) (by omega) (by omega)).mp q
        omega
      rw [zb_Reader_readText_42]
      refine zp_ite (fun q => absurd q (lim sx sm)) fun _ => zp_ite (fun q => absurd sx.2 q) fun _ => zp_ite (fun q => absurd q (dpos _ h6.2)) fun _ => zp_bind (zp_mono (s_stmt (N' := N') rl hd) fun r hr => ?_)
      unfold zb_Reader_readText_87
      have nxt : ∀ (m' : Nat) (s : zS), OUT T a c ws r.1 r.2 s → zp (zb_Reader_readText_42 N n r.1 r.2 (Int32.ofNat tv + 1)) (fun r' => zp ((zb_M_readThread_118 N' m' s).bind fun r16 => zb_M_read_204 N' j r16) (fun s => FIN r' s)) := by
        intro m' s o
        rcases o with ⟨p, x, f⟩ | ⟨a', nv', wv', len', d', lt, z46, rl'⟩
        · exact zp_mono (p_XF_42 x) fun r' h' => zp_bind (p_F_118 f (FB h' f))
        · rw [zo_1 (by omega)]
          by_cases e : d' = 0
          · subst e
            cases m' with
            | zero => exact fun _ _ => zp_bind zp_none
            | succ m' =>
              intro r' e'
              refine zp_bind ?_
              rw [zb_M_readThread_118]
              have s9 := rl'.2.1.2.2.2
              refine zp_ite (fun q => absurd s9 q) fun _ => zp_ite (fun _ => zp_mono (p_M_155 s9) fun r16 w => ?_) fun q => absurd (by rw [z46 rfl]; decide) q
              exact (ih r.1 r.2 (tv + 1) a' (by omega)).2.1 c ws len' r16 j c1 (rl'.rt w) r' e'
          · exact (ih r.1 r.2 (tv + 1) a' (by omega)).2.2 c ws nv' wv' len' d' s m' j (by omega) rl'
      intro r' e'
      cases m with
      | zero => exact zp_bind zp_none
      | succ m =>
        refine zp_bind ?_
        rw [zb_M_readThread_118]
        refine zp_ite (fun q => absurd sm.2.2.2 q) fun _ => zp_ite (fun q => absurd q (dpos _ h46)) fun _ => zp_bind (zp_mono (p_M_isSign sm.d (c := 125) (by decide)) fun u hu => zp_ite (fun z => ?_) fun z => ?_)
        · rcases hr with ⟨k, _⟩ | ⟨_, h⟩
          · rcases hu with hu | hu
            · exact absurd k hu.2
            · rw [hu.1] at z; exact absurd z (by decide)
          · exact zp_bind (zp_mono h fun s hs => zp_unbind (nxt m s hs r' e'))
        · rcases hr with ⟨_, h⟩ | ⟨k, _⟩
          · exact zp_bind (zp_mono h fun s hs => zp_unbind (nxt m s hs r' e'))
          · rcases hu with hu | hu
            · exact absurd hu.1 z
            · exact absurd hu.2 k
