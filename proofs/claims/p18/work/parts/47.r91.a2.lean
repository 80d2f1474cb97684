-- both answer alike
set_option maxRecDepth 2000
def row5W (σ : zS) (s : Nat) : Nat → Int32 := fun i => σ 65 (5 * s + i)
def CTBW (n : Nat) (σ : zS) : Prop := n ≤ 4000 ∧ σ 64 6 = Int32.ofNat n ∧ (∀ p, p < 8192 → σ 68 p = 0 ∨ ∃ s, s < n ∧ σ 68 p = Int32.ofNat (s + 1)) ∧ (∀ s, s < n → ∃ k, k < 8192 ∧ σ 68 ((hcl (row5W σ s) + k) % 8192) = Int32.ofNat (s + 1) ∧ ∀ j, j < k → ¬ σ 68 ((hcl (row5W σ s) + j) % 8192) = 0) ∧ (∀ p q, p < 8192 → q < 8192 → ¬ σ 68 p = 0 → σ 68 p = σ 68 q → p = q)
theorem c_hasW {σ : zS} {n s : Nat} (h6 : σ 64 6 = Int32.ofNat n) (hn : n ≤ 4000) (hs : s < n) : zp (zf_Space_has_c1 σ (Int32.ofNat s)) (fun r => r = 1) := by
  unfold zf_Space_has_c1
  rw [h6]
  refine zp_ite (fun q => ?_) fun _ => zp_ite (fun q => ?_) fun _ => zp_ite (fun q => ?_) fun _ => zp_some rfl
  · have := (zo_lt (k := s) (j := 0) (by omega) (by omega)).mp q
    omega
  · have := (zo_le (k := n) (j := s) (by omega) (by omega)).mp q
    omega
  · have := (zo_le (k := 4000) (j := s) (by omega) (by omega)).mp q
    omega
theorem c_isComingW {N : Nat} {σ : zS} {n s : Nat} (h6 : σ 64 6 = Int32.ofNat n) (hn : n ≤ 4000) (hs : s < n) : zp (zf_Space_isComing_c1 N σ (Int32.ofNat s)) (fun r => (r = 1 ∧ SAME5 (row5W σ s) (σ 40)) ∨ (r = 0 ∧ ¬ SAME5 (row5W σ s) (σ 40))) := by
  have go : ∀ (m i : Nat), i ≤ 5 → (∀ j, j < i → row5W σ s j = σ 40 j) → zp (zb_Space_isComing_c1_2 N m σ (Int32.ofNat s) (Int32.ofNat i)) (fun r => (r = 1 ∧ SAME5 (row5W σ s) (σ 40)) ∨ (r = 0 ∧ ¬ SAME5 (row5W σ s) (σ 40))) := by
    intro m
    induction m with
    | zero => intro _ _ _; exact zp_none
    | succ m ih =>
      intro i hi h
      rw [zb_Space_isComing_c1_2]
      refine zp_ite (fun q => zp_some (Or.inl ⟨rfl, fun j hj => h j ?_⟩)) fun q => zp_bind (zp_mono (c_hasW h6 hn hs) fun r hr => zp_ite (fun z => absurd (hr.symm.trans z) (by decide)) fun _ => ?_)
      · have := (zo_le (k := 5) (j := i) (by omega) (by omega)).mp q
        omega
      · have lt : i < 5 := by
          by_cases c : i < 5
          · exact c
          · exact absurd ((zo_le (k := 5) (j := i) (by omega) (by omega)).mpr (by omega)) q
        rw [zo_mul5 (by omega) (by omega), zo_n (m := 5 * s + i) (by omega), zo_n (m := i) (by omega), zo_1 (by omega)]
        refine zp_chk fun _ => zp_chk fun _ => zp_ite (fun e => ih (i + 1) (by omega) fun j hj => ?_) fun e => zp_some (Or.inr ⟨rfl, fun z => e (z i lt)⟩)
        by_cases c : j = i
        · rw [c]; exact e
        · exact h j (by omega)
  unfold zf_Space_isComing_c1
  exact go N 0 (by omega) fun j hj => absurd hj (Nat.not_lt_zero _)
theorem c_slotW {N : Nat} {σ : zS} {Q : Int32 → Prop} (h : zp (zb_Space_slotOfComing_c1_45 N N σ (Int32.ofNat (hcl (σ 40))) 0) Q) : zp (zf_Space_slotOfComing_c1 N σ) Q := by
  have st : ∀ (m : Nat) (v : Int32) (i : Nat), i < 5 → (∀ m', zp (zb_Space_slotOfComing_c1_4 N m' σ (hst v (σ 40 i)) (Int32.ofNat (i + 1))) Q) → zp (zb_Space_slotOfComing_c1_4 N m σ v (Int32.ofNat i)) Q := by
    intro m v i hi k
    cases m with
    | zero => exact zp_none
    | succ m =>
      rw [zb_Space_slotOfComing_c1_4]
      refine zp_ite (fun q => ?_) fun _ => zp_chk fun _ => ?_
      · have := (zo_le (k := 5) (j := i) (by omega) (by omega)).mp q
        omega
      · rw [zo_n (by omega), zo_1 (by omega)]
        exact k m
  have en : ∀ m, zp (zb_Space_slotOfComing_c1_4 N m σ (hst (hst (hst (hst (hst 0 (σ 40 0)) (σ 40 1)) (σ 40 2)) (σ 40 3)) (σ 40 4)) (Int32.ofNat (4 + 1))) Q := by
    intro m
    cases m with
    | zero => exact zp_none
    | succ m =>
      rw [zb_Space_slotOfComing_c1_4]
      refine zp_ite (fun _ => ?_) fun q => absurd (show (5 : Int32) ≤ Int32.ofNat (4 + 1) by decide) q
      have e : (hst (hst (hst (hst (hst 0 (σ 40 0)) (σ 40 1)) (σ 40 2)) (σ 40 3)) (σ 40 4)) &&& 8191 = Int32.ofNat (hcl (σ 40)) := (zo_mk (z_and _ 8191 (by decide)).1).symm
      rw [e]
      exact h
  unfold zf_Space_slotOfComing_c1
  exact st N 0 0 (by omega) fun m1 => st m1 _ 1 (by omega) fun m2 => st m2 _ 2 (by omega) fun m3 => st m3 _ 3 (by omega) fun m4 => st m4 _ 4 (by omega) fun m5 => en m5
def PRBW (n : Nat) (σ : zS) (r : Int32) : Prop := ∃ p, p < 8192 ∧ r = Int32.ofNat p ∧ ((σ 68 p = 0 ∧ (∀ s, s < n → ¬ SAME5 (row5W σ s) (σ 40)) ∧ ∃ k, k < 8192 ∧ p = (hcl (σ 40) + k) % 8192 ∧ ∀ j, j < k → ¬ σ 68 ((hcl (σ 40) + j) % 8192) = 0) ∨ (¬ σ 68 p = 0 ∧ ∃ s, s < n ∧ SAME5 (row5W σ s) (σ 40)))
theorem c_probeW {N n : Nat} {σ : zS} (cb : CTBW n σ) : ∀ (m j : Nat), j ≤ 8192 → (∀ j', j' < j → ¬ σ 68 ((hcl (σ 40) + j') % 8192) = 0 ∧ ∀ s, s < n → σ 68 ((hcl (σ 40) + j') % 8192) = Int32.ofNat (s + 1) → ¬ SAME5 (row5W σ s) (σ 40)) → zp (zb_Space_slotOfComing_c1_45 N m σ (Int32.ofNat ((hcl (σ 40) + j) % 8192)) (Int32.ofNat j)) (fun r => PRBW n σ r) := by
  obtain ⟨n4, h6, c3, c4, c5⟩ := cb
  intro m
  induction m with
  | zero => intro _ _ _; exact zp_none
  | succ m ih =>
    intro j hj inv
    rw [zb_Space_slotOfComing_c1_45]
    refine zp_ite (fun q => ?_) fun q => zp_chk fun _ => ?_
    · exfalso
      have j8 := (zo_le (k := 8192) (j := j) (by omega) (by omega)).mp q
      have fv : ∀ i, i < 8192 → ∃ s, s < n ∧ σ 68 ((hcl (σ 40) + i) % 8192) = Int32.ofNat (s + 1) := fun i hi => (c3 _ (Nat.mod_lt _ (by decide))).resolve_left (inv i (by omega)).1
      obtain ⟨i, k, ik, k8, e⟩ := z_pigeon n 8192 (fun i => (σ 68 ((hcl (σ 40) + i) % 8192)).toNatClampNeg - 1) (by omega) fun i hi => by
        obtain ⟨s, hs, e⟩ := fv i hi
        rw [e, zo_n (by omega)]
        omega
      obtain ⟨s, hs, es⟩ := fv i (by omega)
      obtain ⟨s', hs', es'⟩ := fv k k8
      rw [es, es', zo_n (by omega), zo_n (by omega)] at e
      have ss : s = s' := by omega
      have pq := c5 _ _ (Nat.mod_lt (hcl (σ 40) + i) (by decide)) (Nat.mod_lt (hcl (σ 40) + k) (by decide)) (inv i (by omega)).1 (by rw [es, es', ss])
      omega
    · have j8 : j < 8192 := by
        by_cases c : j < 8192
        · exact c
        · exact absurd ((zo_le (k := 8192) (j := j) (by omega) (by omega)).mpr (by omega)) q
      have p8 : (hcl (σ 40) + j) % 8192 < 8192 := Nat.mod_lt _ (by decide)
      rw [zo_n (m := (hcl (σ 40) + j) % 8192) (by omega)]
      refine zp_ite (fun z => zp_some ⟨_, p8, rfl, Or.inl ⟨z, fun s hs same => ?_, j, j8, rfl, fun j' h' => (inv j' h').1⟩⟩) fun z => zp_chk fun _ => ?_
      · obtain ⟨k, k8, e, bef⟩ := c4 s hs
        rw [same.hsh] at e bef
        by_cases c : k < j
        · exact (inv k c).2 s hs e same
        · by_cases d : k = j
          · rw [d, z] at e
            have := zo_inj (k := 0) (j := s + 1) (by omega) (by omega) e
            omega
          · exact bef j (by omega) z
      · obtain ⟨s, hs, e⟩ := (c3 _ p8).resolve_left z
        have e1 : σ 68 ((hcl (σ 40) + j) % 8192) - 1 = Int32.ofNat s := by rw [e, zo_pred (by omega) (by omega)]; rfl
        rw [e1]
        refine zp_bind (zp_mono (c_isComingW h6 n4 hs) fun r6 h => zp_ite (fun y => ?_) fun y => zp_some ⟨_, p8, rfl, Or.inr ⟨z, s, hs, ?_⟩⟩)
        · rcases h with h | h
          · exact absurd (h.1.symm.trans y) (by decide)
          · rw [zo_1 (by omega), zo_1 (by omega), z_mask (by omega), show ((hcl (σ 40) + j) % 8192 + 1) % 8192 = (hcl (σ 40) + (j + 1)) % 8192 by omega]
            refine ih (j + 1) (by omega) fun j' h' => ?_
            by_cases c : j' = j
            · rw [c]
              refine ⟨z, fun s' hs' e' => ?_⟩
              have : s' = s := by
                have := zo_inj (k := s' + 1) (j := s + 1) (by omega) (by omega) (e'.symm.trans e)
                omega
              rw [this]
              exact h.2
            · exact inv j' (by omega)
        · rcases h with h | h
          · exact h.2
          · exact absurd h.1 y
theorem c_whereW {N n : Nat} {σ : zS} (cb : CTBW n σ) : zp (zf_Space_slotOfComing_c1 N σ) (fun r => PRBW n σ r) := by
  refine c_slotW ?_
  have l := hcl_lt (σ 40)
  have h := c_probeW (N := N) cb N 0 (by omega) fun j' h' => absurd h' (Nat.not_lt_zero _)
  rw [show (hcl (σ 40) + 0) % 8192 = hcl (σ 40) by omega] at h
  exact h
def CNWW (n : Nat) (way : Int32) (σ r : zS) : Prop := CTBW (n + 1) r ∧ SAME5 (row5W r n) (σ 40) ∧ (∀ s, s < n → SAME5 (row5W r s) (row5W σ s)) ∧ r 66 = zu (σ 66) n way ∧ (∀ q, q ≠ 64 → q ≠ 65 → q ≠ 66 → q ≠ 68 → r q = σ q) ∧ (∀ i, i ≠ 6 → r 64 i = σ 64 i)
theorem CTBW.add {n p : Nat} {σ r : zS} (cb : CTBW n σ) (n4 : n < 4000) (p8 : p < 8192) (z : σ 68 p = 0) (bef : ∃ k, k < 8192 ∧ p = (hcl (σ 40) + k) % 8192 ∧ ∀ j, j < k → ¬ σ 68 ((hcl (σ 40) + j) % 8192) = 0) (e6 : r 64 6 = Int32.ofNat (n + 1)) (e45 : r 68 = zu (σ 68) p (Int32.ofNat (n + 1))) (en : SAME5 (row5W r n) (σ 40)) (eo : ∀ s, s < n → SAME5 (row5W r s) (row5W σ s)) : CTBW (n + 1) r := by
  obtain ⟨_, h6, c3, c4, c5⟩ := cb
  have nz : ∀ q, ¬ σ 68 q = 0 → ¬ r 68 q = 0 ∧ r 68 q = σ 68 q := fun q hq => by
    have ne : q ≠ p := fun e => hq (by rw [e]; exact z)
    rw [e45, zu_ne ne]
    exact ⟨hq, rfl⟩
  have at_ : r 68 p = Int32.ofNat (n + 1) := by rw [e45, zu_eq]
  refine ⟨by omega, e6, fun q hq => ?_, fun s hs => ?_, fun a b ha hb na e => ?_⟩
  · by_cases c : q = p
    · exact Or.inr ⟨n, by omega, by rw [c]; exact at_⟩
    · rw [e45, zu_ne c]
      rcases c3 q hq with h | ⟨s, hs, h⟩
      · exact Or.inl h
      · exact Or.inr ⟨s, by omega, h⟩
  · by_cases c : s = n
    · subst c
      obtain ⟨k, k8, ep, bf⟩ := bef
      rw [en.hsh]
      exact ⟨k, k8, by rw [← ep]; exact at_, fun j hj => (nz _ (bf j hj)).1⟩
    · obtain ⟨k, k8, e, bf⟩ := c4 s (by omega)
      rw [(eo s (by omega)).hsh]
      have ne : ¬ σ 68 ((hcl (row5W σ s) + k) % 8192) = 0 := by
        rw [e]
        intro q
        have := zo_inj (k := s + 1) (j := 0) (by omega) (by omega) q
        omega
      exact ⟨k, k8, by rw [(nz _ ne).2]; exact e, fun j hj => (nz _ (bf j hj)).1⟩
  · have old : ∀ q, q < 8192 → ¬ r 68 q = 0 → q ≠ p → ∃ s, s < n ∧ σ 68 q = Int32.ofNat (s + 1) ∧ r 68 q = σ 68 q := fun q hq nq c => by
      have e' : r 68 q = σ 68 q := by rw [e45, zu_ne c]
      rw [e'] at nq
      obtain ⟨s, hs, h⟩ := (c3 q hq).resolve_left nq
      exact ⟨s, hs, h, e'⟩
    by_cases ca : a = p
    · by_cases cb' : b = p
      · rw [ca, cb']
      · obtain ⟨s, hs, h, e'⟩ := old b hb (by rw [← e]; exact na) cb'
        rw [ca, at_, e', h] at e
        have := zo_inj (k := n + 1) (j := s + 1) (by omega) (by omega) e
        omega
    · obtain ⟨s, hs, h, e'⟩ := old a ha na ca
      by_cases cb' : b = p
      · rw [cb', at_, e', h] at e
        have := zo_inj (k := s + 1) (j := n + 1) (by omega) (by omega) e
        omega
      · obtain ⟨s', hs', h', e''⟩ := old b hb (by rw [← e]; exact na) cb'
        refine c5 a b ha hb ?_ (by rw [← e', ← e'']; exact e)
        rw [← e']
        exact na
theorem c_noteW {N n : Nat} {way : Int32} {σ : zS} (cb : CTBW n σ) : zp (zf_Space_note_c1 N σ way) (fun r => (r = (1, σ) ∧ ∃ s, s < n ∧ SAME5 (row5W σ s) (σ 40)) ∨ ((∀ s, s < n → ¬ SAME5 (row5W σ s) (σ 40)) ∧ ((n < 4000 ∧ r.1 = 1 ∧ CNWW n way σ r.2) ∨ (n = 4000 ∧ r = (0, σ))))) := by
  have n4 := cb.1
  have h6 := cb.2.1
  unfold zf_Space_note_c1
  refine zp_bind (zp_mono (c_whereW cb) ?_)
  rintro r1 ⟨p, p8, e, h⟩
  subst e
  rw [zo_n (m := p) (by omega), h6]
  refine zp_chk fun _ => zp_ite (fun z => ?_) fun z => ?_
  · rcases h with ⟨_, no, bef⟩ | ⟨nz, _⟩
    · refine zp_ite (fun q => ?_) fun _ => zp_ite (fun q => ?_) fun q => zp_some (Or.inr ⟨no, Or.inr ⟨?_, rfl⟩⟩)
      · have := (zo_lt (k := n) (j := 0) (by omega) (by omega)).mp q
        omega
      · have n4 := (zo_lt (k := n) (j := 4000) (by omega) (by omega)).mp q
        have m5 : Int32.ofNat n * 5 = Int32.ofNat (5 * n) := by
          show Int32.ofNat n * Int32.ofNat 5 = _
          rw [← Int32.ofNat_mul, Nat.mul_comm]
        have c6 : (zJ_copy σ 40 65 0 (Int32.ofNat (5 * n)) 5) 64 6 = Int32.ofNat n := by rw [zJ_copy_ne (by decide)]; exact h6
        rw [m5, c6, zo_n (m := n) (by omega), zo_1 (by omega)]
        have c42 : ∀ j, (zJ_copy σ 40 65 0 (Int32.ofNat (5 * n)) 5) 65 j = if 5 * n ≤ j ∧ j < 5 * n + 5 then σ 40 (j - 5 * n) else σ 65 j := fun j => by
          unfold zJ_copy va_cpy
          rw [if_pos rfl, zo_n (m := 5 * n) (by omega), show (5 : Int32).toNatClampNeg = 5 from rfl, show (0 : Int32).toNatClampNeg = 0 from rfl, Nat.zero_add]
        have cq : ∀ q, q ≠ 65 → (zJ_copy σ 40 65 0 (Int32.ofNat (5 * n)) 5) q = σ q := fun q hq => zJ_copy_ne hq
        generalize (zJ_copy σ 40 65 0 (Int32.ofNat (5 * n)) 5) = C at *
        have en : SAME5 (row5W (zx_up (zx_up (zx_up C 66 n way) 64 6 (Int32.ofNat (n + 1))) 68 p (Int32.ofNat (n + 1))) n) (σ 40) := fun i hi => by
          unfold row5W
          rw [zu_other (by decide), zu_other (by decide), zu_other (by decide), c42, if_pos (by omega), show 5 * n + i - 5 * n = i by omega]
        have eo : ∀ s, s < n → SAME5 (row5W (zx_up (zx_up (zx_up C 66 n way) 64 6 (Int32.ofNat (n + 1))) 68 p (Int32.ofNat (n + 1))) s) (row5W σ s) := fun s hs i hi => by
          unfold row5W
          rw [zu_other (by decide), zu_other (by decide), zu_other (by decide), c42, if_neg (by omega)]
        refine zp_chk fun _ => zp_chk fun _ => zp_chk fun _ => zp_some (Or.inr ⟨no, Or.inl ⟨n4, rfl, cb.add n4 p8 z bef ?_ ?_ en eo, en, eo, ?_, fun q a b c d => ?_, fun i hi => ?_⟩⟩)
        · dsimp only
          rw [zu_other (by decide), zx_up_same, zu_eq]
        · dsimp only
          rw [zx_up_same, zu_other (by decide), zu_other (by decide), cq 68 (by decide)]
        · dsimp only
          rw [zu_other (by decide), zu_other (by decide), zx_up_same, cq 66 (by decide)]
        · dsimp only
          rw [zu_other d, zu_other a, zu_other c, cq q b]
        · dsimp only
          rw [zu_other (by decide), zx_up_same, zu_ne hi, zu_other (by decide), cq 64 (by decide)]
      · by_cases c : n < 4000
        · exact absurd ((zo_lt (k := n) (j := 4000) (by omega) (by omega)).mpr c) q
        · omega
    · exact absurd z nz
  · rcases h with ⟨z', _⟩ | ⟨_, s, hs, same⟩
    · exact absurd z' z
    · exact zp_some (Or.inl ⟨rfl, s, hs, same⟩)
def GSTW (ρ : zS) (n : Nat) (W : Nat → Nat → Int32) (σ : zS) : Prop := (∀ q, 4 ≤ q → q ≤ 16 → σ q = ρ q) ∧ CTBW n σ ∧ (∀ j, j < n → SAME5 (row5W σ j) (W j)) ∧ (∀ i j, i < j → j < n → ¬ SAME5 (W i) (W j))
theorem GSTW.of {ρ σ r : zS} {n : Nat} {W : Nat → Nat → Int32} (h : GSTW ρ n W σ) (e : ∀ q, q ≠ 36 → q ≠ 37 → q ≠ 38 → q ≠ 39 → q ≠ 40 → q ≠ 67 → r q = σ q) : GSTW ρ n W r := by
  obtain ⟨h1, h2, h3, h4⟩ := h
  have e42 : r 65 = σ 65 := e 65 (by decide) (by decide) (by decide) (by decide) (by decide) (by decide)
  have rw5 : ∀ j, row5W r j = row5W σ j := fun j => by unfold row5W; rw [e42]
  refine ⟨fun q a b => (e q (by omega) (by omega) (by omega) (by omega) (by omega) (by omega)).trans (h1 q a b), ?_, fun j hj => by rw [rw5]; exact h3 j hj, h4⟩
  unfold CTBW at *
  rw [e 64 (by decide) (by decide) (by decide) (by decide) (by decide) (by decide), e 68 (by decide) (by decide) (by decide) (by decide) (by decide) (by decide)]
  refine ⟨h2.1, h2.2.1, h2.2.2.1, fun s hs => ?_, h2.2.2.2.2⟩
  rw [rw5]
  exact h2.2.2.2.1 s hs
theorem c_noteGW {N n : Nat} {way : Int32} {ρ σ : zS} {W : Nat → Nat → Int32} (h : GSTW ρ n W σ) : zp (zf_Space_note_c1 N σ way) (fun r => (r = (1, σ) ∧ ∃ j, j < n ∧ SAME5 (W j) (σ 40)) ∨ ((∀ j, j < n → ¬ SAME5 (W j) (σ 40)) ∧ ((n < 4000 ∧ r.1 = 1 ∧ GSTW ρ (n + 1) (fun j => if j = n then σ 40 else W j) r.2 ∧ (∀ q, q ≠ 64 → q ≠ 65 → q ≠ 66 → q ≠ 68 → r.2 q = σ q) ∧ (∀ i, i ≠ 6 → r.2 64 i = σ 64 i)) ∨ (n = 4000 ∧ r = (0, σ))))) := by
  obtain ⟨h1, h2, h3, h4⟩ := h
  refine zp_mono (c_noteW h2) fun r hr => ?_
  rcases hr with ⟨e, j, hj, s⟩ | ⟨no, hr⟩
  · exact Or.inl ⟨e, j, hj, (h3 j hj).sy.tr s⟩
  · have no' : ∀ j, j < n → ¬ SAME5 (W j) (σ 40) := fun j hj s => no j hj ((h3 j hj).tr s)
    refine Or.inr ⟨no', ?_⟩
    rcases hr with ⟨n4, e, cb, en, eo, _, fr, f41⟩ | hr
    · refine Or.inl ⟨n4, e, ⟨fun q a b => (fr q (by omega) (by omega) (by omega) (by omega)).trans (h1 q a b), cb, fun j hj => ?_, fun i j ij hj => ?_⟩, fr, f41⟩
      · dsimp only
        by_cases c : j = n
        · rw [c, if_pos rfl]; exact en
        · rw [if_neg c]; exact (eo j (by omega)).tr (h3 j (by omega))
      · dsimp only
        rw [if_neg (show ¬ i = n by omega)]
        by_cases c : j = n
        · rw [if_pos c]; exact no' i (by omega)
        · rw [if_neg c]; exact h4 i j ij (by omega)
    · exact Or.inr hr
theorem c_fill45W {N : Nat} {σ : zS} : zp (zf_Arrays_fill_c7 N σ 0) (fun r => (∀ q, q ≠ 68 → r q = σ q) ∧ ∀ p, p < 8192 → r 68 p = 0) := by
  have go : ∀ (n i : Nat) (ν : zS), i ≤ 8192 → (∀ q, q ≠ 68 → ν q = σ q) → (∀ l, l < i → ν 68 l = 0) → zp (zb_Arrays_fill_c7_5 N n ν 0 (Int32.ofNat i) 8192) (fun r => (∀ q, q ≠ 68 → r q = σ q) ∧ ∀ p, p < 8192 → r 68 p = 0) := by
    intro n
    induction n with
    | zero => intro _ _ _ _ _; exact zp_none
    | succ n ih =>
      intro i ν hi fr f
      rw [zb_Arrays_fill_c7_5]
      refine zp_ite (fun q => zp_some ⟨fr, fun l hl => f l ?_⟩) fun q => zp_chk fun _ => ?_
      · have := (zo_le (k := 8192) (j := i) (by omega) (by omega)).mp q
        omega
      · rw [zo_n (by omega), zo_1 (by omega)]
        have lt : i < 8192 := by
          by_cases c : i < 8192
          · exact c
          · exact absurd ((zo_le (k := 8192) (j := i) (by omega) (by omega)).mpr (by omega)) q
        refine ih (i + 1) _ (by omega) (fun q hq => by rw [zu_other hq]; exact fr q hq) fun l hl => ?_
        rw [zx_up_same]
        by_cases c : l = i
        · rw [c, zu_eq]
        · rw [zu_ne c]; exact f l (by omega)
  unfold zf_Arrays_fill_c7
  exact go N 0 σ (by omega) (fun _ _ => rfl) fun l hl => absurd hl (Nat.not_lt_zero _)
theorem c_ownW {N t : Nat} {k34 : zS → Int32 → Option zS} {v5 : Int32} {ν : zS} {Q : zS → Prop} (kk : ∀ ν', (∀ q, q ≠ 38 → ν' q = ν q) → (∀ l, l < 4 → (bit v5 l → ν' 38 l = Int32.ofNat t) ∧ (¬ bit v5 l → ν' 38 l = ν 38 l)) → zp (k34 ν' (Int32.ofNat t + 1)) Q) : ∀ (n l : Nat) (ν1 : zS), l ≤ 4 → (∀ q, q ≠ 38 → ν1 q = ν q) → (∀ j, j < 4 → (j < l → (bit v5 j → ν1 38 j = Int32.ofNat t) ∧ (¬ bit v5 j → ν1 38 j = ν 38 j)) ∧ (l ≤ j → ν1 38 j = ν 38 j)) → zp (zb_Machine_load_c1_95 k34 N n ν1 (Int32.ofNat t) v5 (Int32.ofNat l)) Q := by
  intro n
  induction n with
  | zero => intro _ _ _ _ _; exact zp_none
  | succ n ih =>
    intro l ν1 l4 fr f
    rw [zb_Machine_load_c1_95]
    unfold zb_Machine_load_c1_130 zb_Machine_load_c1_124
    have A : (4 ≤ l ∨ v5 = 0) → zp (k34 ν1 (Int32.ofNat t + 1)) Q := fun h => kk ν1 fr fun j hj => by
      by_cases c : j < l
      · exact (f j hj).1 c
      · have z : v5 = 0 := h.resolve_left (by omega)
        rw [z]
        exact ⟨fun b => absurd b (bit_zero (by omega)), fun _ => (f j hj).2 (by omega)⟩
    refine zp_ite (fun q => A (Or.inl ((zo_le (k := 4) (j := l) (by omega) (by omega)).mp q))) fun q => zp_ite (fun z => A (Or.inr z)) fun _ => ?_
    have lt : l < 4 := by
      by_cases c : l < 4
      · exact c
      · exact absurd ((zo_le (k := 4) (j := l) (by omega) (by omega)).mpr (by omega)) q
    rw [zo_1 (by omega), zo_n (by omega)]
    refine zp_ite (fun b => ih (l + 1) ν1 (by omega) fr fun j hj => ⟨fun c => ?_, fun c => (f j hj).2 (by omega)⟩) fun b => zp_chk fun _ => ih (l + 1) _ (by omega) (fun q hq => by rw [zu_other hq]; exact fr q hq) fun j hj => ⟨fun c => ?_, fun c => by rw [zx_up_same, zu_ne (by omega)]; exact (f j hj).2 (by omega)⟩
    · by_cases d : j = l
      · rw [d]
        exact ⟨fun q => absurd b q, fun _ => (f l lt).2 (Nat.le_refl _)⟩
      · exact (f j hj).1 (by omega)
    · rw [zx_up_same]
      by_cases d : j = l
      · rw [d, zu_eq]
        exact ⟨fun _ => rfl, fun q => absurd b q⟩
      · rw [zu_ne d]
        exact (f j hj).1 (by omega)
theorem c_loadW {N n s m : Nat} {len : Nat → Nat} {nc : Nat → Nat → Nat} {ρ μ σ : zS} {x : Nat → Int32} (pc : PC m len nc ρ μ) (h6 : σ 64 6 = Int32.ofNat n) (hn : n ≤ 4000) (hs : s < n) (e : ∀ q, 4 ≤ q → q ≤ 16 → σ q = ρ q) (st : ST m len nc ρ (wm (row5W σ s)) x) : zp (zf_Space_load_c1 N σ (Int32.ofNat s)) (fun r => LDD m ρ (row5W σ s) x r ∧ (∀ q, q ≠ 36 → q ≠ 37 → q ≠ 38 → q ≠ 39 → r q = σ q)) := by
  obtain ⟨⟨m4, _, _⟩, p2, p3, _, p5⟩ := pc
  obtain ⟨a1, a2, a3, a4, a5, a6, a7⟩ := st
  have hw14 : ∀ t, t < m → (zJ_ushr (row5W σ s (t + 1)) 14) &&& 7 = x (15 + 6 * t) := fun t ht => (wm_mk (w := row5W σ s) (t := t)).how.trans (a2 t ht).how
  have hs9 : ∀ t, t < m → (zJ_ushr (row5W σ s (t + 1)) 9) &&& 31 = x (14 + 6 * t) := fun t ht => (wm_mk (w := row5W σ s) (t := t)).stp.trans (a2 t ht).stp
  unfold zf_Space_load_c1
  refine zp_bind (zp_mono (c_hasW h6 hn hs) fun r1 h1 => zp_ite (fun z => absurd (h1.symm.trans z) (by decide)) fun _ => zp_bind ?_)
  have m5 : Int32.ofNat s * 5 = Int32.ofNat (5 * s) := by
    show Int32.ofNat s * Int32.ofNat 5 = _
    rw [← Int32.ofNat_mul, Nat.mul_comm]
  rw [m5]
  unfold zf_Machine_load_c1
  have p5' : Int32.ofNat (5 * s) + 5 = Int32.ofNat (5 * s + 5) := zo_plus (i := 5 * s) (j := 5) rfl (by omega)
  rw [p5']
  refine zp_ite (fun q => ?_) fun _ => zp_ite (fun _ => zp_chk fun _ => ?_) fun q => absurd ((zo_le (k := 5 * s + 5) (j := 20000) (by omega) (by omega)).mpr (by omega)) q
  · have := (zo_lt (k := 5 * s) (j := 0) (by omega) (by omega)).mp q
    omega
  have c39 : ∀ i, i < 5 → (zJ_copy σ 65 39 (Int32.ofNat (5 * s)) 0 5) 39 i = row5W σ s i := fun i hi => by
    unfold zJ_copy va_cpy row5W
    rw [if_pos rfl, zo_n (m := 5 * s) (by omega), show (5 : Int32).toNatClampNeg = 5 from rfl, show (0 : Int32).toNatClampNeg = 0 from rfl, if_pos (by omega), Nat.sub_zero]
  have cq : ∀ q, q ≠ 39 → (zJ_copy σ 65 39 (Int32.ofNat (5 * s)) 0 5) q = σ q := fun q hq => zJ_copy_ne hq
  generalize (zJ_copy σ 65 39 (Int32.ofNat (5 * s)) 0 5) = C at *
  refine zp_bind (zp_mono c_fill38 fun r4 h4 => ?_)
  have go : ∀ (n t : Nat) (ν : zS), t ≤ 4 → (∀ q, q ≠ 36 → q ≠ 37 → q ≠ 38 → ν q = C q) → (∀ t', t' < t → t' < m → ν 36 t' = x (15 + 6 * t') ∧ ∀ z, z < 24 → x (14 + 6 * t') = Int32.ofNat z → Int32.ofNat z < ρ 5 t' → ν 37 t' = Int32.ofNat (24 * t' + z)) → (∀ l, l < 4 → (ν 38 l = -1 ∧ ∀ t', t' < t → t' < m → HN ρ nc x t' l = 0) ∨ ∃ t', t' < t ∧ t' < m ∧ 0 < HN ρ nc x t' l ∧ ν 38 l = Int32.ofNat t') → zp (zb_Machine_load_c1_34 N n ν (Int32.ofNat t)) (fun r => zp (some r) fun r => LDD m ρ (row5W σ s) x r ∧ (∀ q, q ≠ 36 → q ≠ 37 → q ≠ 38 → q ≠ 39 → r q = σ q)) := by
    intro n
    induction n with
    | zero => intro _ _ _ _ _ _; exact zp_none
    | succ n ih =>
      intro t ν t4 fr th ow
      rw [zb_Machine_load_c1_34]
      refine zp_ite (fun q => zp_some (zp_some ⟨⟨fun q a b => ?_, fun i hi => ?_, fun t' ht' => ?_, fun l hl => ?_⟩, fun q a b c d => ?_⟩)) fun q => ?_
      · rw [fr q (by omega) (by omega) (by omega), cq q (by omega)]; exact e q a b
      · rw [fr 39 (by decide) (by decide) (by decide)]; exact c39 i hi
      · have := (zo_le (k := 4) (j := t) (by omega) (by omega)).mp q
        exact th t' (by omega) ht'
      · have t4' := (zo_le (k := 4) (j := t) (by omega) (by omega)).mp q
        rcases ow l hl with ⟨o1, o2⟩ | ⟨u, u1, u2, u3, u4⟩
        · rcases a6 l hl with ⟨_, b2, _⟩ | ⟨u, hu, b1, _⟩
          · exact Or.inl ⟨o1, b2⟩
          · have := o2 u (by omega) hu
            omega
        · rcases a6 l hl with ⟨b1, _⟩ | ⟨u', hu', b1, b2, b3, _⟩
          · have := b1 u u2
            omega
          · have uu : u = u' := by
              by_cases c : u = u'
              · exact c
              · have := b2 u u2 c
                omega
            rw [← uu] at b3
            exact Or.inr ⟨u, u2, u4, b3⟩
      · rw [fr q a b c, cq q d]
      · have lt : t < 4 := by
          by_cases c : t < 4
          · exact c
          · exact absurd ((zo_le (k := 4) (j := t) (by omega) (by omega)).mpr (by omega)) q
        have e39 : ν 39 (t + 1) = row5W σ s (t + 1) := by rw [fr 39 (by decide) (by decide) (by decide)]; exact c39 (t + 1) (by omega)
        rw [zo_1 (by omega), zo_n (m := t) (by omega), zo_n (m := t + 1) (by omega), e39]
        have pr : ∀ q, 4 ≤ q → q ≤ 16 → ν q = ρ q := fun q a b => by rw [fr q (by omega) (by omega) (by omega), cq q (by omega)]; exact e q a b
        refine zp_chk fun _ => zp_chk fun _ => zp_bind fun r8 e8' => zp_chk fun _ => zp_bind ?_
        have fin : ∀ had : Int32, (t < m → (zJ_ushr (row5W σ s (t + 1)) 14) &&& 7 = x (15 + 6 * t) ∧ (∀ z, z < 24 → x (14 + 6 * t) = Int32.ofNat z → Int32.ofNat z < ρ 5 t → r8 = Int32.ofNat (24 * t + z)) ∧ ∀ l, l < 4 → (bit had l ↔ 0 < HN ρ nc x t l)) → (¬ t < m → had = 0) → zp (zb_Machine_load_c1_95 (zb_Machine_load_c1_34 N n) N N (zx_up (zx_up ν 36 t ((zJ_ushr (row5W σ s (t + 1)) 14) &&& 7)) 37 t r8) (Int32.ofNat t) had 0) (fun r => zp (some r) fun r => LDD m ρ (row5W σ s) x r ∧ (∀ q, q ≠ 36 → q ≠ 37 → q ≠ 38 → q ≠ 39 → r q = σ q)) := by
          intro had hm hz
          refine c_ownW (ν := zx_up (zx_up ν 36 t ((zJ_ushr (row5W σ s (t + 1)) 14) &&& 7)) 37 t r8) (fun ν' f1 f2 => ?_) N 0 _ (by omega) (fun _ _ => rfl) fun j hj => ⟨fun c => absurd c (Nat.not_lt_zero _), fun _ => rfl⟩
          rw [zo_1 (by omega)]
          refine ih (t + 1) ν' (by omega) (fun q a b c => ?_) (fun t' ht' hm' => ?_) fun l hl => ?_
          · rw [f1 q c, zu_other b, zu_other a]; exact fr q a b c
          · rw [f1 36 (by decide), f1 37 (by decide), zu_other (by decide), zx_up_same, zx_up_same, zu_other (by decide)]
            by_cases c : t' = t
            · subst c
              obtain ⟨g1, g2, _⟩ := hm hm'
              rw [zu_eq]
              refine ⟨g1, fun z z1 z2 z3 => ?_⟩
              rw [zu_eq]
              exact g2 z z1 z2 z3
            · obtain ⟨g1, g2⟩ := th t' (by omega) hm'
              rw [zu_ne c]
              refine ⟨g1, fun z z1 z2 z3 => ?_⟩
              rw [zu_ne c]
              exact g2 z z1 z2 z3
          · obtain ⟨g1, g2⟩ := f2 l hl
            have o38 : (zx_up (zx_up ν 36 t ((zJ_ushr (row5W σ s (t + 1)) 14) &&& 7)) 37 t r8) 38 l = ν 38 l := by rw [zu_other (by decide), zu_other (by decide)]
            rw [o38] at g2
            by_cases b : bit had l
            · by_cases c : t < m
              · exact Or.inr ⟨t, by omega, c, ((hm c).2.2 l hl).mp b, g1 b⟩
              · rw [hz c] at b
                exact absurd b (bit_zero (by omega))
            · rw [g2 b]
              rcases ow l hl with ⟨o1, o2⟩ | ⟨u, u1, u2, u3, u4⟩
              · refine Or.inl ⟨o1, fun t' ht' hm' => ?_⟩
                by_cases c : t' = t
                · subst c
                  have := (not_congr ((hm hm').2.2 l hl)).mp b
                  omega
                · exact o2 t' (by omega) hm'
              · exact Or.inr ⟨u, by omega, u2, u3, u4⟩
        by_cases c : t < m
        · have sl : ∀ z, z < 24 → x (14 + 6 * t) = Int32.ofNat z → Int32.ofNat z < ρ 5 t → r8 = Int32.ofNat (24 * t + z) := fun z z1 z2 z3 => by
            rw [hs9 t c, z2] at e8'
            rcases p_X_slotOf2 (by omega) z1 r8 e8' with ⟨_, h⟩ | ⟨h, _⟩
            · exact h
            · rw [zu_other (by decide), pr 5 (by decide) (by decide)] at h
              exact absurd z3 h
          obtain ⟨l24, e5, _⟩ := p2 t c
          refine zp_mono (c_locksOf (S := zx_up (zx_up ν 36 t ((zJ_ushr (row5W σ s (t + 1)) 14) &&& 7)) 37 t r8) (ρ := ρ) (x := x) (len := len t) lt ?_ ?_ ?_ (fun z zl ez => ?_) (a4 t c) l24 (p5 t c)) fun had hb => fin had (fun _ => ⟨hw14 t c, sl, hb⟩) fun n => absurd c n
          · rw [zu_other (by decide), zu_other (by decide)]; exact pr 8 (by decide) (by decide)
          · rw [zu_other (by decide), zu_other (by decide)]; exact pr 11 (by decide) (by decide)
          · rw [zu_other (by decide), zx_up_same, zu_eq]; exact hw14 t c
          · rw [zx_up_same, zu_eq]
            exact sl z (by omega) ez (by rw [e5]; exact (zo_lt (by omega) (by omega)).mpr zl)
        · have w4 : (zJ_ushr (row5W σ s (t + 1)) 14) &&& 7 = 4 := by
            have k : how17 (row5W σ s (t + 1)) = how17 (wm (row5W σ s) (t + 1)) := (wm_mk (w := row5W σ s) (t := t)).how
            rw [(a3 t (by omega) lt).1] at k
            unfold how17 at k
            rw [k]
            decide
          have z4 : zp (zf_Machine_locksOf (zx_up (zx_up ν 36 t ((zJ_ushr (row5W σ s (t + 1)) 14) &&& 7)) 37 t r8) (Int32.ofNat t)) (fun r => r = 0) := by
            unfold zf_Machine_locksOf
            refine zp_bind (zp_mono (c_slotOf lt) fun r1 e1 => zp_bind (zp_mono (c_howOf lt) fun r2 e2 => ?_))
            rw [zu_other (by decide), zx_up_same, zu_eq, w4] at e2
            subst e2
            exact zp_ite (fun q => absurd q (by decide)) fun _ => zp_ite (fun q => absurd q (by decide)) fun _ => zp_ite (fun q => absurd q (by decide)) fun _ => zp_some rfl
          exact zp_mono z4 fun had e0 => fin had (fun q => absurd q c) fun _ => e0
  refine go N 0 r4 (by omega) (fun q a b c => h4.1 q c) (fun t' ht' => absurd ht' (Nat.not_lt_zero _)) fun l hl => Or.inl ⟨h4.2 l hl, fun t' ht' => absurd ht' (Nat.not_lt_zero _)⟩
theorem c_isLastW {σ : zS} {n k : Nat} (h6 : σ 64 6 = Int32.ofNat n) (hn : n ≤ 4000) (hk : k < n) (l01 : σ 67 k = 0 ∨ σ 67 k = 1) : zp (zf_Space_isLast_c1 σ (Int32.ofNat k)) (fun r => r = σ 67 k) := by
  unfold zf_Space_isLast_c1
  refine zp_bind (zp_mono (c_hasW h6 hn hk) fun r1 h1 => ?_)
  rw [zo_n (m := k) (by omega)]
  refine zp_ite (fun z => absurd (h1.symm.trans z) (by decide)) fun _ => zp_chk fun _ => ?_
  rcases l01 with e | e
  · exact zp_ite (fun _ => zp_some e.symm) fun q => absurd e q
  · exact zp_ite (fun z => absurd (e.symm.trans z) (by decide)) fun _ => zp_some e.symm
theorem a_61W {σ : zS} {L : List Nat} {y : Nat} (h : STL (σ 72 1) (σ 73) L) (hl : L.length < 4000) : zp (zf_Numbers_add_c8 σ (Int32.ofNat y)) (fun r => STL (r 72 1) (r 73) (L ++ [y]) ∧ ∀ q, q ≠ 72 → q ≠ 73 → r q = σ q) := by
  have h1 := h.1
  unfold zf_Numbers_add_c8
  rw [h1]
  refine zp_ite (fun q => ?_) fun _ => zp_ite (fun q => ?_) fun _ => zp_chk fun _ => zp_some ⟨?_, fun q a b => by rw [zu_other a, zu_other b]⟩
  · have := (zo_lt (k := L.length) (j := 0) (by omega) (by omega)).mp q
    omega
  · have := (zo_le (k := 4000) (j := L.length) (by omega) (by omega)).mp q
    omega
  · rw [zo_n (m := L.length) (by omega), zo_1 (m := L.length) (by omega), zx_up_same, zu_eq, zu_other (by decide), zx_up_same]
    exact h.snoc
def OTBW (n : Nat) (σ : zS) : Prop := n ≤ 4000 ∧ σ 70 1 = Int32.ofNat n ∧ (∀ p, p < 8192 → σ 74 p = 0 ∨ ∃ s, s < n ∧ σ 74 p = Int32.ofNat (s + 1)) ∧ (∀ s, s < n → ∃ k, k < 8192 ∧ σ 74 ((hco (σ 71 s) + k) % 8192) = Int32.ofNat (s + 1) ∧ ∀ j, j < k → ¬ σ 74 ((hco (σ 71 s) + j) % 8192) = 0) ∧ (∀ p q, p < 8192 → q < 8192 → ¬ σ 74 p = 0 → σ 74 p = σ 74 q → p = q)
theorem g_59W {σ : zS} {n s : Nat} (h : σ 70 1 = Int32.ofNat n) (hn : n ≤ 4000) (hs : s < n) : zp (zf_Numbers_get_c7 σ (Int32.ofNat s)) (fun r => r = σ 71 s) := by
  unfold zf_Numbers_get_c7 zb_Numbers_get_c7_21
  rw [h, zo_n (m := s) (by omega)]
  refine zp_ite (fun q => ?_) fun _ => zp_ite (fun q => ?_) fun _ => zp_ite (fun _ => zp_chk fun _ => zp_some rfl) fun q => absurd ((zo_lt (k := s) (j := 4000) (by omega) (by omega)).mpr (by omega)) q
  · have := (zo_lt (k := s) (j := 0) (by omega) (by omega)).mp q
    omega
  · have := (zo_le (k := n) (j := s) (by omega) (by omega)).mp q
    omega
def PRO6W (n : Nat) (c : Int32) (σ : zS) (r : Int32) : Prop := ∃ p, p < 8192 ∧ r = Int32.ofNat p ∧ ((σ 74 p = 0 ∧ (∀ s, s < n → ¬ σ 71 s = c) ∧ ∃ k, k < 8192 ∧ p = (hco c + k) % 8192 ∧ ∀ j, j < k → ¬ σ 74 ((hco c + j) % 8192) = 0) ∨ (¬ σ 74 p = 0 ∧ ∃ s, s < n ∧ σ 71 s = c))
theorem c_probeOW {N n : Nat} {c : Int32} {σ : zS} (cb : OTBW n σ) : ∀ (m j : Nat), j ≤ 8192 → (∀ j', j' < j → ¬ σ 74 ((hco c + j') % 8192) = 0 ∧ ∀ s, s < n → σ 74 ((hco c + j') % 8192) = Int32.ofNat (s + 1) → ¬ σ 71 s = c) → zp (zb_Outcomes_slotOf_c1_19 N m σ c (Int32.ofNat ((hco c + j) % 8192)) (Int32.ofNat j)) (fun r => PRO6W n c σ r) := by
  obtain ⟨n4, h6, c3, c4, c5⟩ := cb
  intro m
  induction m with
  | zero => intro _ _ _; exact zp_none
  | succ m ih =>
    intro j hj inv
    rw [zb_Outcomes_slotOf_c1_19]
    refine zp_ite (fun q => ?_) fun q => zp_chk fun _ => ?_
    · exfalso
      have j8 := (zo_le (k := 8192) (j := j) (by omega) (by omega)).mp q
      have fv : ∀ i, i < 8192 → ∃ s, s < n ∧ σ 74 ((hco c + i) % 8192) = Int32.ofNat (s + 1) := fun i hi => (c3 _ (Nat.mod_lt _ (by decide))).resolve_left (inv i (by omega)).1
      obtain ⟨i, k, ik, k8, e⟩ := z_pigeon n 8192 (fun i => (σ 74 ((hco c + i) % 8192)).toNatClampNeg - 1) (by omega) fun i hi => by
        obtain ⟨s, hs, e⟩ := fv i hi
        rw [e, zo_n (by omega)]
        omega
      obtain ⟨s, hs, es⟩ := fv i (by omega)
      obtain ⟨s', hs', es'⟩ := fv k k8
      rw [es, es', zo_n (by omega), zo_n (by omega)] at e
      have ss : s = s' := by omega
      have pq := c5 _ _ (Nat.mod_lt (hco c + i) (by decide)) (Nat.mod_lt (hco c + k) (by decide)) (inv i (by omega)).1 (by rw [es, es', ss])
      omega
    · have j8 : j < 8192 := by
        by_cases cc : j < 8192
        · exact cc
        · exact absurd ((zo_le (k := 8192) (j := j) (by omega) (by omega)).mpr (by omega)) q
      have p8 : (hco c + j) % 8192 < 8192 := Nat.mod_lt _ (by decide)
      rw [zo_n (m := (hco c + j) % 8192) (by omega)]
      refine zp_ite (fun z => zp_some ⟨_, p8, rfl, Or.inl ⟨z, fun s hs same => ?_, j, j8, rfl, fun j' h' => (inv j' h').1⟩⟩) fun z => zp_chk fun _ => ?_
      · obtain ⟨k, k8, e, bef⟩ := c4 s hs
        rw [same] at e bef
        by_cases cc : k < j
        · exact (inv k cc).2 s hs e same
        · by_cases d : k = j
          · rw [d, z] at e
            have := zo_inj (k := 0) (j := s + 1) (by omega) (by omega) e
            omega
          · exact bef j (by omega) z
      · obtain ⟨s, hs, e⟩ := (c3 _ p8).resolve_left z
        have e1 : σ 74 ((hco c + j) % 8192) - 1 = Int32.ofNat s := by rw [e, zo_pred (by omega) (by omega)]; rfl
        rw [e1]
        refine zp_bind (zp_mono (g_59W h6 n4 hs) fun r6 h => zp_ite (fun y => ?_) fun y => zp_some ⟨_, p8, rfl, Or.inr ⟨z, s, hs, h.symm.trans (Classical.not_not.mp y)⟩⟩)
        · have h2 : ¬ σ 71 s = c := fun e' => y (h.trans e')
          · rw [zo_1 (by omega), zo_1 (by omega), z_mask (by omega), show ((hco c + j) % 8192 + 1) % 8192 = (hco c + (j + 1)) % 8192 by omega]
            refine ih (j + 1) (by omega) fun j' h' => ?_
            by_cases cc : j' = j
            · rw [cc]
              refine ⟨z, fun s' hs' e' => ?_⟩
              have : s' = s := by
                have := zo_inj (k := s' + 1) (j := s + 1) (by omega) (by omega) (e'.symm.trans e)
                omega
              rw [this]
              exact h2
            · exact inv j' (by omega)
theorem OTBW.add {n p : Nat} {c : Int32} {σ r : zS} (cb : OTBW n σ) (n4 : n < 4000) (p8 : p < 8192) (z : σ 74 p = 0) (bef : ∃ k, k < 8192 ∧ p = (hco c + k) % 8192 ∧ ∀ j, j < k → ¬ σ 74 ((hco c + j) % 8192) = 0) (e6 : r 70 1 = Int32.ofNat (n + 1)) (e63 : r 74 = zu (σ 74) p (Int32.ofNat (n + 1))) (en : r 71 n = c) (eo : ∀ s, s < n → r 71 s = σ 71 s) : OTBW (n + 1) r := by
  obtain ⟨_, h6, c3, c4, c5⟩ := cb
  have nz : ∀ q, ¬ σ 74 q = 0 → ¬ r 74 q = 0 ∧ r 74 q = σ 74 q := fun q hq => by
    have ne : q ≠ p := fun e => hq (by rw [e]; exact z)
    rw [e63, zu_ne ne]
    exact ⟨hq, rfl⟩
  have at_ : r 74 p = Int32.ofNat (n + 1) := by rw [e63, zu_eq]
  refine ⟨by omega, e6, fun q hq => ?_, fun s hs => ?_, fun a b ha hb na e => ?_⟩
  · by_cases d : q = p
    · exact Or.inr ⟨n, by omega, by rw [d]; exact at_⟩
    · rw [e63, zu_ne d]
      rcases c3 q hq with h | ⟨s, hs, h⟩
      · exact Or.inl h
      · exact Or.inr ⟨s, by omega, h⟩
  · by_cases d : s = n
    · subst d
      obtain ⟨k, k8, ep, bf⟩ := bef
      rw [en]
      exact ⟨k, k8, by rw [← ep]; exact at_, fun j hj => (nz _ (bf j hj)).1⟩
    · obtain ⟨k, k8, e, bf⟩ := c4 s (by omega)
      rw [eo s (by omega)]
      have ne : ¬ σ 74 ((hco (σ 71 s) + k) % 8192) = 0 := by
        rw [e]
        intro q
        have := zo_inj (k := s + 1) (j := 0) (by omega) (by omega) q
        omega
      exact ⟨k, k8, by rw [(nz _ ne).2]; exact e, fun j hj => (nz _ (bf j hj)).1⟩
  · have old : ∀ q, q < 8192 → ¬ r 74 q = 0 → q ≠ p → ∃ s, s < n ∧ σ 74 q = Int32.ofNat (s + 1) ∧ r 74 q = σ 74 q := fun q hq nq d => by
      have e' : r 74 q = σ 74 q := by rw [e63, zu_ne d]
      rw [e'] at nq
      obtain ⟨s, hs, h⟩ := (c3 q hq).resolve_left nq
      exact ⟨s, hs, h, e'⟩
    by_cases ca : a = p
    · by_cases cb' : b = p
      · rw [ca, cb']
      · obtain ⟨s, hs, h, e'⟩ := old b hb (by rw [← e]; exact na) cb'
        rw [ca, at_, e', h] at e
        have := zo_inj (k := n + 1) (j := s + 1) (by omega) (by omega) e
        omega
    · obtain ⟨s, hs, h, e'⟩ := old a ha na ca
      by_cases cb' : b = p
      · rw [cb', at_, e', h] at e
        have := zo_inj (k := s + 1) (j := n + 1) (by omega) (by omega) e
        omega
      · obtain ⟨s', hs', h', e''⟩ := old b hb (by rw [← e]; exact na) cb'
        refine c5 a b ha hb ?_ (by rw [← e', ← e'']; exact e)
        rw [← e']
        exact na
theorem c_onoteW {N n y : Nat} {c : Int32} {σ : zS} {L : List Nat} (ot : OTBW n σ) (nl : L.length = n) (n4 : n < 4000) (sl : STL (σ 72 1) (σ 73) L) : zp (zf_Outcomes_note_c1 N σ c (Int32.ofNat y)) (fun r => ((∃ s, s < n ∧ σ 71 s = c) ∧ r = σ) ∨ ((∀ s, s < n → ¬ σ 71 s = c) ∧ OTBW (n + 1) r ∧ STL (r 72 1) (r 73) (L ++ [y]) ∧ r 71 = zu (σ 71) n c ∧ ∀ q, q ≠ 70 → q ≠ 71 → q ≠ 72 → q ≠ 73 → q ≠ 74 → r q = σ q)) := by
  unfold zf_Outcomes_note_c1 zf_Outcomes_slotOf_c1
  have e0 : ((c * (-1640531535)) ^^^ (zJ_ushr (c * (-1640531535)) 15)) &&& 8191 = Int32.ofNat (hco c) := (zo_mk (z_and _ 8191 (by decide)).1).symm
  have l := hco_lt c
  have h := c_probeOW (N := N) (c := c) ot N 0 (by omega) fun j' h' => absurd h' (Nat.not_lt_zero _)
  rw [show (hco c + 0) % 8192 = hco c by omega] at h
  rw [e0]
  refine zp_bind (zp_mono h fun r1 h1 => ?_)
  obtain ⟨p, p8, e, h1⟩ := h1
  subst e
  rw [zo_n (m := p) (by omega)]
  rcases h1 with ⟨z, no, bef⟩ | ⟨nz, s, hs, same⟩
  · refine zp_chk fun _ => zp_ite (fun q => absurd z q) fun _ => ?_
    have g59 := ot.2.1
    unfold zf_Numbers_add_c7
    rw [g59]
    refine zp_bind (zp_ite (fun q => ?_) fun _ => zp_ite (fun q => ?_) fun _ => zp_chk fun _ => zp_some ?_)
    · have := (zo_lt (k := n) (j := 0) (by omega) (by omega)).mp q
      omega
    · have := (zo_le (k := 4000) (j := n) (by omega) (by omega)).mp q
      omega
    · rw [zo_n (m := n) (by omega), zo_1 (m := n) (by omega)]
      refine zp_bind (zp_mono (a_61W (σ := zx_up (zx_up σ 71 n c) 70 1 (Int32.ofNat (n + 1))) (L := L) (y := y) (by rw [zu_other (by decide), zu_other (by decide), zu_other (by decide), zu_other (by decide)]; exact sl) (by omega)) fun r5 h5 => zp_chk fun _ => zp_some (Or.inr ⟨no, ?_, ?_, ?_, fun q a b c d e => ?_⟩))
      · have k59 : r5 70 = zu (σ 70) 1 (Int32.ofNat (n + 1)) := by rw [h5.2 70 (by decide) (by decide), zx_up_same, zu_other (by decide)]
        have k60 : r5 71 = zu (σ 71) n c := by rw [h5.2 71 (by decide) (by decide), zu_other (by decide), zx_up_same]
        have k63 : r5 74 = σ 74 := by rw [h5.2 74 (by decide) (by decide), zu_other (by decide), zu_other (by decide)]
        refine ot.add n4 p8 z bef ?_ ?_ ?_ fun s hs => ?_
        · rw [zu_other (by decide), k59, zu_eq]
        · rw [zx_up_same, k63, k59, zu_eq]
        · rw [zu_other (by decide), k60, zu_eq]
        · rw [zu_other (by decide), k60, zu_ne (by omega)]
      · rw [zu_other (by decide), zu_other (by decide)]
        exact h5.1
      · rw [zu_other (by decide), h5.2 71 (by decide) (by decide), zu_other (by decide), zx_up_same]
      · rw [zu_other e, h5.2 q c d, zu_other a, zu_other b]
  · exact zp_chk fun _ => zp_ite (fun _ => zp_some (Or.inl ⟨⟨s, hs, same⟩, rfl⟩)) fun q => absurd nz q
theorem c_fill63W {N : Nat} {σ : zS} : zp (zf_Arrays_fill_c8 N σ 0) (fun r => (∀ q, q ≠ 74 → r q = σ q) ∧ ∀ p, p < 8192 → r 74 p = 0) := by
  have go : ∀ (n i : Nat) (ν : zS), i ≤ 8192 → (∀ q, q ≠ 74 → ν q = σ q) → (∀ l, l < i → ν 74 l = 0) → zp (zb_Arrays_fill_c8_5 N n ν 0 (Int32.ofNat i) 8192) (fun r => (∀ q, q ≠ 74 → r q = σ q) ∧ ∀ p, p < 8192 → r 74 p = 0) := by
    intro n
    induction n with
    | zero => intro _ _ _ _ _; exact zp_none
    | succ n ih =>
      intro i ν hi fr f
      rw [zb_Arrays_fill_c8_5]
      refine zp_ite (fun q => zp_some ⟨fr, fun l hl => f l ?_⟩) fun q => zp_chk fun _ => ?_
      · have := (zo_le (k := 8192) (j := i) (by omega) (by omega)).mp q
        omega
      · rw [zo_n (by omega), zo_1 (by omega)]
        have lt : i < 8192 := by
          by_cases c : i < 8192
          · exact c
          · exact absurd ((zo_le (k := 8192) (j := i) (by omega) (by omega)).mpr (by omega)) q
        refine ih (i + 1) _ (by omega) (fun q hq => by rw [zu_other hq]; exact fr q hq) fun l hl => ?_
        rw [zx_up_same]
        by_cases c : l = i
        · rw [c, zu_eq]
        · rw [zu_ne c]; exact f l (by omega)
  unfold zf_Arrays_fill_c8
  exact go N 0 σ (by omega) (fun _ _ => rfl) fun l hl => absurd hl (Nat.not_lt_zero _)
theorem ax_b_Arrays_fill_c4_5 {σ0 : zS} {N : Nat}  : ∀ (n : Nat) (σ : zS) (v1 : Int32) (v2 : Int32) (v3 : Int32), F36 σ0 σ → zp (zb_Arrays_fill_c4_5 N n σ v1 v2 v3) (fun r => F36 σ0 r) := by
  intro n
  induction n with
  | zero => intro _ _ _ _ _; exact zp_none
  | succ n ih =>
    intro σ v1 v2 v3 hs
    rw [zb_Arrays_fill_c4_5]
    refine zp_ite (fun _ => ?_) fun _ => ?_
    ·
      exact zp_some hs
    ·
      refine zp_chk fun _ => ?_
      exact ih _ _ _ _ (F36.up (by decide) hs)
theorem ax_f_Arrays_fill_c4 {σ0 : zS} {N : Nat} {σ : zS} {x2 : Int32}  (hs : F36 σ0 σ) : zp (zf_Arrays_fill_c4 N σ x2) (fun r => F36 σ0 r) := by
  unfold zf_Arrays_fill_c4
  exact ax_b_Arrays_fill_c4_5  _ _ _ _ _ hs
theorem ax_b_Machine_load_c1_130 {σ0 : zS} {k34 : zS → Int32 → Option (zS)} {N : Nat} {σ : zS} {v3 : Int32} (hk34 : ∀ (y0 : zS) (y1 : Int32), F36 σ0 y0 → zp (k34 y0 y1) (fun r => F36 σ0 r)) (hs : F36 σ0 σ) : zp (zb_Machine_load_c1_130 k34 N σ v3) (fun r => F36 σ0 r) := by
  unfold zb_Machine_load_c1_130
  exact hk34 _ _ hs
theorem ax_b_Machine_load_c1_124 {σ0 : zS} {k95 : zS → Int32 → Int32 → Int32 → Option (zS)} {N : Nat} {σ : zS} {v3 : Int32} {v5 : Int32} {v6 : Int32} (hk95 : ∀ (y0 : zS) (y1 : Int32) (y2 : Int32) (y3 : Int32), F36 σ0 y0 → zp (k95 y0 y1 y2 y3) (fun r => F36 σ0 r)) (hs : F36 σ0 σ) : zp (zb_Machine_load_c1_124 k95 N σ v3 v5 v6) (fun r => F36 σ0 r) := by
  unfold zb_Machine_load_c1_124
  exact hk95 _ _ _ _ hs
theorem ax_b_Machine_load_c1_95 {σ0 : zS} {k34 : zS → Int32 → Option (zS)} {N : Nat} (hk34 : ∀ (y0 : zS) (y1 : Int32), F36 σ0 y0 → zp (k34 y0 y1) (fun r => F36 σ0 r)) : ∀ (n : Nat) (σ : zS) (v3 : Int32) (v5 : Int32) (v6 : Int32), F36 σ0 σ → zp (zb_Machine_load_c1_95 k34 N n σ v3 v5 v6) (fun r => F36 σ0 r) := by
  intro n
  induction n with
  | zero => intro _ _ _ _ _; exact zp_none
  | succ n ih =>
    intro σ v3 v5 v6 hs
    rw [zb_Machine_load_c1_95]
    refine zp_ite (fun _ => ?_) fun _ => ?_
    ·
      exact ax_b_Machine_load_c1_130 (hk34) hs
    ·
      refine zp_ite (fun _ => ?_) fun _ => ?_
      ·
        exact ax_b_Machine_load_c1_130 (hk34) hs
      ·
        refine zp_ite (fun _ => ?_) fun _ => ?_
        ·
          exact ax_b_Machine_load_c1_124 (ih) hs
        ·
          refine zp_chk fun _ => ?_
          exact ax_b_Machine_load_c1_124 (ih) (F36.up (by decide) hs)
theorem ax_b_Machine_load_c1_34 {σ0 : zS} {N : Nat}  : ∀ (n : Nat) (σ : zS) (v3 : Int32), F36 σ0 σ → zp (zb_Machine_load_c1_34 N n σ v3) (fun r => F36 σ0 r) := by
  intro n
  induction n with
  | zero => intro _ _ _; exact zp_none
  | succ n ih =>
    intro σ v3 hs
    rw [zb_Machine_load_c1_34]
    refine zp_ite (fun _ => ?_) fun _ => ?_
    ·
      exact zp_some hs
    ·
      refine zp_chk fun _ => ?_
      refine zp_chk fun _ => ?_
      refine zp_bind fun r8 _ => ?_
      refine zp_chk fun _ => ?_
      refine zp_bind fun r10 _ => ?_
      exact ax_b_Machine_load_c1_95 (ih) _ _ _ _ _ (F36.up (by decide) (F36.up (by decide) hs))
theorem ax_f_Machine_load_c1 {σ0 : zS} {N : Nat} {σ : zS} {x2 : Int32}  (hs : F36 σ0 σ) : zp (zf_Machine_load_c1 N σ x2) (fun r => F36 σ0 r) := by
  unfold zf_Machine_load_c1
  refine zp_ite (fun _ => ?_) fun _ => ?_
  ·
    exact zp_some hs
  ·
    refine zp_ite (fun _ => ?_) fun _ => ?_
    ·
      refine zp_chk fun _ => ?_
      refine zp_bind (zp_mono (ax_f_Arrays_fill_c4  (F36.cp (by decide) hs)) fun r4 hr4 => ?_)
      exact ax_b_Machine_load_c1_34  _ _ _ hr4
    ·
      exact zp_some hs
theorem ax_f_Space_load_c1 {σ0 : zS} {N : Nat} {σ : zS} {x1 : Int32}  (hs : F36 σ0 σ) : zp (zf_Space_load_c1 N σ x1) (fun r => F36 σ0 r) := by
  unfold zf_Space_load_c1
  refine zp_bind fun r1 _ => ?_
  refine zp_ite (fun _ => ?_) fun _ => ?_
  ·
    exact zp_some hs
  ·
    refine zp_bind (zp_mono (ax_f_Machine_load_c1  hs) fun r3 hr3 => ?_)
    exact zp_some hr3
theorem c_loadFW {N : Nat} {σ : zS} {x : Int32} : zp (zf_Space_load_c1 N σ x) (fun r => ∀ q, q ≠ 36 → q ≠ 37 → q ≠ 38 → q ≠ 39 → r q = σ q) := ax_f_Space_load_c1 (σ0 := σ) fun _ _ _ _ _ => rfl
