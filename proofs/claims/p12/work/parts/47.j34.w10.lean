-- both answer alike
set_option maxRecDepth 2000
theorem p_M_findLaters1 {N nz : Nat} {c len : Nat → Nat} {wt wz : Nat → Int64} {μ : zS} (h9 : μ 82 9 = 0) (h19 : μ 82 19 = Int32.ofNat nz) (z128 : nz ≤ 128) (h17 : μ 82 17 = Int32.ofNat (c 2)) (t4 : c 2 ≤ 4) (h90 : ∀ t, t < c 2 → len t ≤ 24 ∧ μ 90 t = Int32.ofNat (len t)) (nmt : ∀ t, t < c 2 → Nm μ (10 + t) (wt t)) (nmz : ∀ l, l < nz → Nm μ (17 + l) (wz l)) : zp (zf_M_findLaters N μ) (fun s => s 82 9 = 0 → (∀ q l, SJ c len μ q → l < nz → μ 93 q = Int32.ofNat (4 + l) → ∃ k, k < c 2 ∧ wt k = wz l ∧ s 93 q = Int32.ofNat k) ∧ (∀ q, (¬ SJ c len μ q ∨ ∃ k, k < 4 ∧ μ 93 q = Int32.ofNat k) → s 93 q = μ 93 q)) := by
  unfold zf_M_findLaters
  have go2 : ∀ (n l : Nat) (ν : zS), l ≤ nz → (∀ q, q ≠ 93 → ν q = μ q) → (∀ q l', SJ c len μ q → l' < l → μ 93 q = Int32.ofNat (4 + l') → ∃ k, k < c 2 ∧ wt k = wz l' ∧ ν 93 q = Int32.ofNat k) → (∀ q, (¬ SJ c len μ q ∨ ∀ l', l' < l → μ 93 q ≠ Int32.ofNat (4 + l')) → ν 93 q = μ 93 q) → zp (zb_M_findLaters_2 N n ν (Int32.ofNat l)) (fun s => s 82 9 = 0 → (∀ q l, SJ c len μ q → l < nz → μ 93 q = Int32.ofNat (4 + l) → ∃ k, k < c 2 ∧ wt k = wz l ∧ s 93 q = Int32.ofNat k) ∧ (∀ q, (¬ SJ c len μ q ∨ ∃ k, k < 4 ∧ μ 93 q = Int32.ofNat k) → s 93 q = μ 93 q)) := by
    intro n
    induction n with
    | zero => intro _ _ _ _ _ _; exact zp_none
    | succ n ih =>
      intro l ν hl fr y1 y2
      have e82 := fr 82 (by decide)
      rw [zb_M_findLaters_2, e82, h19, h9]
      refine zp_ite (fun q => zp_some fun _ => ⟨fun q' l' sj hl' e => y1 q' l' sj ?_ e, fun q' h => y2 q' ?_⟩) fun q => zp_ite (fun q2 => absurd rfl q2) fun _ => ?_
      · have := (zo_le (by omega) (by omega)).mp q
        omega
      · rcases h with h | ⟨k, k4, e⟩
        · exact Or.inl h
        · refine Or.inr fun l' hl' e' => ?_
          have := zo_inj (k := k) (j := 4 + l') (by omega) (by omega) (e.symm.trans e')
          omega
      have lt : l < nz := by
        rw [zo_le (by omega) (by omega)] at q
        omega
      have nmt' : ∀ t, t < c 2 → Nm ν (10 + t) (wt t) := fun t ht => (nmt t ht).of (fun i _ => by rw [fr 85 (by decide)]) (by rw [fr 86 (by decide)])
      have nmz' : ∀ l, l < nz → Nm ν (17 + l) (wz l) := fun l hl => (nmz l hl).of (fun i _ => by rw [fr 85 (by decide)]) (by rw [fr 86 (by decide)])
      have sjν : ∀ q, SJ c len ν q ↔ SJ c len μ q := fun q => by unfold SJ; rw [fr 92 (by decide)]
      have e17 : 17 + Int32.ofNat l = Int32.ofNat (17 + l) := zo_plus (i := 17) rfl (by omega)
      have go21 : ∀ (m t : Nat) (v2 : Int32), t ≤ c 2 → ((v2 = -1) ∨ (∃ k, k < t ∧ v2 = Int32.ofNat k ∧ wt k = wz l)) → zp (zb_M_findLaters_21 (zb_M_findLaters_2 N n) N m ν (Int32.ofNat l) v2 (Int32.ofNat t)) (fun s => s 82 9 = 0 → (∀ q l, SJ c len μ q → l < nz → μ 93 q = Int32.ofNat (4 + l) → ∃ k, k < c 2 ∧ wt k = wz l ∧ s 93 q = Int32.ofNat k) ∧ (∀ q, (¬ SJ c len μ q ∨ ∃ k, k < 4 ∧ μ 93 q = Int32.ofNat k) → s 93 q = μ 93 q)) := by
        intro m
        induction m with
        | zero => intro _ _ _ _; exact zp_none
        | succ m ihm =>
          intro t v2 ht hv
          rw [zb_M_findLaters_21, e82, h17]
          refine zp_ite (fun q => ?_) fun q => ?_
          · refine zp_ite (fun z => ?_) fun z => zp_chk fun _ => p_M_fl167 fun ν' f' => ?_
            · obtain ⟨k, k1, k2, k3⟩ : ∃ k, k < t ∧ v2 = Int32.ofNat k ∧ wt k = wz l := hv.resolve_left z
              refine p_M_fl167W (c := c) (len := len) (by rw [e82]; exact h17) t4 (fun t ht => by rw [fr 90 (by decide)]; exact h90 t ht) (by omega) fun ν' f' w' => ?_
              rw [zo_1 (by omega)]
              refine ih (l + 1) ν' (by omega) (fun q hq => by rw [f' q hq, fr q hq]) (fun q' l' sj hl' e => ?_) (fun q' h => ?_)
              · by_cases el : l' = l
                · subst el
                  have old : ν 93 q' = μ 93 q' := y2 q' (Or.inr fun l'' hl'' e'' => by
                    have := zo_inj (k := 4 + l') (j := 4 + l'') (by omega) (by omega) (e.symm.trans e'')
                    omega)
                  exact ⟨k, by omega, k3, by rw [(w' q').1 ⟨(sjν q').mpr sj, old.trans e⟩]; exact k2⟩
                · obtain ⟨k', k1', k2', k3'⟩ := y1 q' l' sj (by omega) e
                  refine ⟨k', k1', k2', ?_⟩
                  rw [(w' q').2 fun y => ?_]
                  · exact k3'
                  · have := zo_inj (k := k') (j := 4 + l) (by omega) (by omega) (k3'.symm.trans y.2)
                    omega
              · have old : ν 93 q' = μ 93 q' := y2 q' (by
                  rcases h with h | h
                  · exact Or.inl h
                  · exact Or.inr fun l'' hl'' => h l'' (by omega))
                rw [(w' q').2 fun y => ?_]
                · exact old
                · rcases h with h | h
                  · exact h ((sjν q').mp y.1)
                  · exact h l (by omega) (old.symm.trans y.2)
            · have f9 : ¬ ν' 82 9 = 0 := by
                rw [f' 82 (by decide), zx_up_same, zu_ne (by decide), zx_up_same, zu_ne (by decide), zx_up_same, zu_eq]; decide
              cases n with
              | zero => exact zp_none
              | succ n =>
                rw [zb_M_findLaters_2]
                exact zp_ite (fun _ => zp_some fun w => absurd w f9) fun _ => zp_ite (fun _ => zp_some fun w => absurd w f9) fun q => absurd f9 q
          · have tn : t < c 2 := by
              rw [zo_le (by omega) (by omega)] at q
              omega
            have e10 : 10 + Int32.ofNat t = Int32.ofNat (10 + t) := zo_plus (i := 10) rfl (by omega)
            rw [e10, e17, zo_n (m := 10 + t) (by omega), zo_n (m := 17 + l) (by omega)]
            have hit := fun (x : Int32) hx0 hx1 => p_M_fl60 (k21 := zb_M_findLaters_21 (zb_M_findLaters_2 N n) N m) (N := N) (v2 := v2) (Q := fun s => s 82 9 = 0 → (∀ q l, SJ c len μ q → l < nz → μ 93 q = Int32.ofNat (4 + l) → ∃ k, k < c 2 ∧ wt k = wz l ∧ s 93 q = Int32.ofNat k) ∧ (∀ q, (¬ SJ c len μ q ∨ ∃ k, k < 4 ∧ μ 93 q = Int32.ofNat k) → s 93 q = μ 93 q)) (l := l) (t := t) (by omega) (by omega) (nmt' t tn) (nmz' l lt) (fun ne => ihm (t + 1) v2 (by omega) (by
                rcases hv with e1 | ⟨k, k1, k2, k3⟩
                · exact Or.inl e1
                · exact Or.inr ⟨k, by omega, k2, k3⟩)) (fun eq => ihm (t + 1) _ (by omega) (Or.inr ⟨t, by omega, rfl, eq⟩)) N 0 x (by omega) hx0 hx1
            unfold zb_M_findLaters_55
            refine zp_chk fun _ => zp_chk fun _ => zp_ite (fun d => ?_) fun d => ?_
            · exact hit 0 (fun _ x => d (((nmt' t tn).same2 (nmz' l lt)).mp x).1) (fun x => absurd rfl x)
            · exact hit 1 (fun x => absurd x (by decide)) (fun _ => ⟨Classical.not_not.mp d, fun j hj => absurd hj (Nat.not_lt_zero _)⟩)
      exact go21 N 0 (-1) (Nat.zero_le _) (Or.inl rfl)
  exact go2 N 0 μ (Nat.zero_le _) (fun _ _ => rfl) (fun q l' _ h => absurd h (Nat.not_lt_zero _)) (fun _ _ => rfl)
def named (k : Int32) : Prop := k = 0 ∨ k = 1 ∨ k = 3 ∨ k = 4 ∨ k = 7 ∨ k = 8 ∨ k = 9 ∨ k = 10 ∨ k = 11
def ROW (ρ μ : zS) (q : Nat) : Prop := ρ 7 q = μ 92 q ∧ (named (μ 92 q) → ρ 8 q = μ 93 q) ∧ (¬ named (μ 92 q) → ρ 8 q = -1) ∧ ρ 9 q = μ 94 q ∧ ((μ 92 q = 5 ∨ μ 92 q = 6) → ρ 10 q = μ 95 q) ∧ (¬ (μ 92 q = 5 ∨ μ 92 q = 6) → ρ 10 q = -1) ∧ ρ 11 q = μ 96 q ∧ ρ 12 q = μ 97 q
def PRW (ρ μ : zS) : Prop := ∃ (c len : Nat → Nat), c 2 ≤ 4 ∧ (∀ s, s < 3 → ρ 4 s = Int32.ofNat (c s) ∧ μ 82 (15 + s) = Int32.ofNat (c s)) ∧ (∀ t, t < c 2 → len t ≤ 24 ∧ ρ 5 t = Int32.ofNat (len t) ∧ μ 90 t = Int32.ofNat (len t)) ∧ (∀ t, c 2 ≤ t → t < 4 → ρ 5 t = 0) ∧ ρ 4 4 = Int32.ofNat (sumL len (c 2)) ∧ ρ 4 3 = μ 82 25 ∧ (∀ t s, t < c 2 → s < len t → ROW ρ μ (24 * t + s)) ∧ (∀ s, s < 3 → c s ≤ 6) ∧ (∀ t s, t < c 2 → s < len t → μ 92 (24 * t + s) = 13 → ρ 9 (24 * t + s) = Int32.ofNat (len t))
