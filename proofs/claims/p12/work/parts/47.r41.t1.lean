-- both answer alike
set_option maxRecDepth 2000
theorem z_bn {m : Nat} (h : m ≤ 100000) : (Int32.ofNat m).toBitVec.toNat = m := by
  show (BitVec.ofNat 32 m).toNat = m
  rw [BitVec.toNat_ofNat]
  exact Nat.mod_eq_of_lt (by have : (2 : Nat) ^ 32 = 4294967296 := rfl; omega)
theorem z_mask {n : Nat} (h : n ≤ 100000) : Int32.ofNat n &&& 8191 = Int32.ofNat (n % 8192) := by
  apply Int32.toBitVec_inj.mp
  rw [Int32.toBitVec_and]
  apply BitVec.eq_of_toNat_eq
  rw [BitVec.toNat_and, z_bn h, z_bn (m := n % 8192) (by omega), show (8191 : Int32).toBitVec.toNat = 2 ^ 13 - 1 from rfl, Nat.and_two_pow_sub_one_eq_mod]
theorem zo_mul5 {s i : Nat} (hs : s ≤ 4000) (hi : i ≤ 5) : Int32.ofNat s * 5 + Int32.ofNat i = Int32.ofNat (5 * s + i) := by
  show Int32.ofNat s * Int32.ofNat 5 + Int32.ofNat i = Int32.ofNat (5 * s + i)
  rw [← Int32.ofNat_mul, ← Int32.ofNat_add, Nat.mul_comm]
theorem z_pigeon : ∀ (n m : Nat) (f : Nat → Nat), n < m → (∀ i, i < m → f i < n) → ∃ i j, i < j ∧ j < m ∧ f i = f j := by
  intro n
  induction n with
  | zero => intro m f h k; exact absurd (k 0 h) (Nat.not_lt_zero _)
  | succ n ih =>
    intro m f h k
    obtain ⟨m', rfl⟩ : ∃ m', m = m' + 1 := ⟨m - 1, by omega⟩
    by_cases c : ∃ i, i < m' ∧ f i = f m'
    · obtain ⟨i, hi, e⟩ := c
      exact ⟨i, m', hi, by omega, e⟩
    · have nc : ∀ i, i < m' → f i ≠ f m' := fun i hi e => c ⟨i, hi, e⟩
      have km := k m' (by omega)
      obtain ⟨i, j, ij, jm, e⟩ := ih m' (fun i => if f i = n then f m' else f i) (by omega) (fun i hi => by
        have a := k i (by omega)
        have b := nc i hi
        show (if f i = n then f m' else f i) < n
        by_cases d : f i = n
        · rw [if_pos d]; omega
        · rw [if_neg d]; omega)
      refine ⟨i, j, ij, by omega, ?_⟩
      have bi := nc i (by omega)
      have bj := nc j jm
      by_cases d : f i = n
      · by_cases d' : f j = n
        · omega
        · rw [if_pos d, if_neg d'] at e; exact absurd e.symm bj
      · by_cases d' : f j = n
        · rw [if_neg d, if_pos d'] at e; exact absurd e bi
        · rw [if_neg d, if_neg d'] at e; exact e
def hst (v x : Int32) : Int32 := ((v ^^^ x) * (-1640531535)) ^^^ (zJ_ushr ((v ^^^ x) * (-1640531535)) 15)
def hcl (w : Nat → Int32) : Nat := ((hst (hst (hst (hst (hst 0 (w 0)) (w 1)) (w 2)) (w 3)) (w 4)) &&& 8191).toNatClampNeg
def SAME5 (v w : Nat → Int32) : Prop := ∀ i, i < 5 → v i = w i
def row5 (σ : zS) (s : Nat) : Nat → Int32 := fun i => σ 42 (5 * s + i)
theorem SAME5.hsh {v w : Nat → Int32} (h : SAME5 v w) : hcl v = hcl w := by
  unfold hcl
  rw [h 0 (by omega), h 1 (by omega), h 2 (by omega), h 3 (by omega), h 4 (by omega)]
theorem hcl_lt (w : Nat → Int32) : hcl w < 8192 := by
  have b := z_and (hst (hst (hst (hst (hst 0 (w 0)) (w 1)) (w 2)) (w 3)) (w 4)) 8191 (by decide)
  have n := z_nat b.1
  have l := Int32.le_iff_toInt_le.mp b.2
  have k : (8191 : Int32).toInt = 8191 := rfl
  unfold hcl
  omega
def CTB (n : Nat) (σ : zS) : Prop := n ≤ 4000 ∧ σ 41 6 = Int32.ofNat n ∧ (∀ p, p < 8192 → σ 45 p = 0 ∨ ∃ s, s < n ∧ σ 45 p = Int32.ofNat (s + 1)) ∧ (∀ s, s < n → ∃ k, k < 8192 ∧ σ 45 ((hcl (row5 σ s) + k) % 8192) = Int32.ofNat (s + 1) ∧ ∀ j, j < k → ¬ σ 45 ((hcl (row5 σ s) + j) % 8192) = 0) ∧ (∀ p q, p < 8192 → q < 8192 → ¬ σ 45 p = 0 → σ 45 p = σ 45 q → p = q)
theorem c_has {σ : zS} {n s : Nat} (h6 : σ 41 6 = Int32.ofNat n) (hn : n ≤ 4000) (hs : s < n) : zp (zf_Space_has σ (Int32.ofNat s)) (fun r => r = 1) := by
  unfold zf_Space_has
  rw [h6]
  refine zp_ite (fun q => ?_) fun _ => zp_ite (fun q => ?_) fun _ => zp_ite (fun q => ?_) fun _ => zp_some rfl
  · have := (zo_lt (k := s) (j := 0) (by omega) (by omega)).mp q
    omega
  · have := (zo_le (k := n) (j := s) (by omega) (by omega)).mp q
    omega
  · have := (zo_le (k := 4000) (j := s) (by omega) (by omega)).mp q
    omega
theorem c_isComing {N : Nat} {σ : zS} {n s : Nat} (h6 : σ 41 6 = Int32.ofNat n) (hn : n ≤ 4000) (hs : s < n) : zp (zf_Space_isComing N σ (Int32.ofNat s)) (fun r => (r = 1 ∧ SAME5 (row5 σ s) (σ 40)) ∨ (r = 0 ∧ ¬ SAME5 (row5 σ s) (σ 40))) := by
  have go : ∀ (m i : Nat), i ≤ 5 → (∀ j, j < i → row5 σ s j = σ 40 j) → zp (zb_Space_isComing_2 N m σ (Int32.ofNat s) (Int32.ofNat i)) (fun r => (r = 1 ∧ SAME5 (row5 σ s) (σ 40)) ∨ (r = 0 ∧ ¬ SAME5 (row5 σ s) (σ 40))) := by
    intro m
    induction m with
    | zero => intro _ _ _; exact zp_none
    | succ m ih =>
      intro i hi h
      rw [zb_Space_isComing_2]
      refine zp_ite (fun q => zp_some (Or.inl ⟨rfl, fun j hj => h j ?_⟩)) fun q => zp_bind (zp_mono (c_has h6 hn hs) fun r hr => zp_ite (fun z => absurd (hr.symm.trans z) (by decide)) fun _ => ?_)
      · have := (zo_le (k := 5) (j := i) (by omega) (by omega)).mp q
        omega
      · have lt : i < 5 := by
          by_cases c : i < 5
          · exact c
          · exact absurd ((zo_le (k := 5) (j := i) (by omega) (by omega)).mpr (by omega)) q
        rw [zo_mul5 (by omega) (by omega), zo_n (m := 5 * s + i) (by omega), zo_n (m := i) (by omega), zo_1 (by omega)]
        refine zp_chk fun _ => zp_chk fun _ => zp_ite (fun e => ih (i + 1) (by omega) fun j hj => ?_) fun e => zp_some (Or.inr ⟨rfl, fun z => e (z i lt)⟩)
        by_cases c : j = i
        · rw [c]; exact e
        · exact h j (by omega)
  unfold zf_Space_isComing
  exact go N 0 (by omega) fun j hj => absurd hj (Nat.not_lt_zero _)
theorem c_slot {N : Nat} {σ : zS} {Q : Int32 → Prop} (h : zp (zb_Space_slotOfComing_45 N N σ (Int32.ofNat (hcl (σ 40))) 0) Q) : zp (zf_Space_slotOfComing N σ) Q := by
  have st : ∀ (m : Nat) (v : Int32) (i : Nat), i < 5 → (∀ m', zp (zb_Space_slotOfComing_4 N m' σ (hst v (σ 40 i)) (Int32.ofNat (i + 1))) Q) → zp (zb_Space_slotOfComing_4 N m σ v (Int32.ofNat i)) Q := by
    intro m v i hi k
    cases m with
    | zero => exact zp_none
    | succ m =>
      rw [zb_Space_slotOfComing_4]
      refine zp_ite (fun q => ?_) fun _ => zp_chk fun _ => ?_
      · have := (zo_le (k := 5) (j := i) (by omega) (by omega)).mp q
        omega
      · rw [zo_n (by omega), zo_1 (by omega)]
        exact k m
  have en : ∀ m, zp (zb_Space_slotOfComing_4 N m σ (hst (hst (hst (hst (hst 0 (σ 40 0)) (σ 40 1)) (σ 40 2)) (σ 40 3)) (σ 40 4)) (Int32.ofNat (4 + 1))) Q := by
    intro m
    cases m with
    | zero => exact zp_none
    | succ m =>
      rw [zb_Space_slotOfComing_4]
      refine zp_ite (fun _ => ?_) fun q => absurd (show (5 : Int32) ≤ Int32.ofNat (4 + 1) by decide) q
      have e : (hst (hst (hst (hst (hst 0 (σ 40 0)) (σ 40 1)) (σ 40 2)) (σ 40 3)) (σ 40 4)) &&& 8191 = Int32.ofNat (hcl (σ 40)) := (zo_mk (z_and _ 8191 (by decide)).1).symm
      rw [e]
      exact h
  unfold zf_Space_slotOfComing
  exact st N 0 0 (by omega) fun m1 => st m1 _ 1 (by omega) fun m2 => st m2 _ 2 (by omega) fun m3 => st m3 _ 3 (by omega) fun m4 => st m4 _ 4 (by omega) fun m5 => en m5
def PRB (n : Nat) (σ : zS) (r : Int32) : Prop := ∃ p, p < 8192 ∧ r = Int32.ofNat p ∧ ((σ 45 p = 0 ∧ (∀ s, s < n → ¬ SAME5 (row5 σ s) (σ 40)) ∧ ∃ k, k < 8192 ∧ p = (hcl (σ 40) + k) % 8192 ∧ ∀ j, j < k → ¬ σ 45 ((hcl (σ 40) + j) % 8192) = 0) ∨ (¬ σ 45 p = 0 ∧ ∃ s, s < n ∧ SAME5 (row5 σ s) (σ 40)))
theorem c_probe {N n : Nat} {σ : zS} (cb : CTB n σ) : ∀ (m j : Nat), j ≤ 8192 → (∀ j', j' < j → ¬ σ 45 ((hcl (σ 40) + j') % 8192) = 0 ∧ ∀ s, s < n → σ 45 ((hcl (σ 40) + j') % 8192) = Int32.ofNat (s + 1) → ¬ SAME5 (row5 σ s) (σ 40)) → zp (zb_Space_slotOfComing_45 N m σ (Int32.ofNat ((hcl (σ 40) + j) % 8192)) (Int32.ofNat j)) (fun r => PRB n σ r) := by
  obtain ⟨n4, h6, c3, c4, c5⟩ := cb
  intro m
  induction m with
  | zero => intro _ _ _; exact zp_none
  | succ m ih =>
    intro j hj inv
    rw [zb_Space_slotOfComing_45]
    refine zp_ite (fun q => ?_) fun q => zp_chk fun _ => ?_
    · exfalso
      have j8 := (zo_le (k := 8192) (j := j) (by omega) (by omega)).mp q
      have fv : ∀ i, i < 8192 → ∃ s, s < n ∧ σ 45 ((hcl (σ 40) + i) % 8192) = Int32.ofNat (s + 1) := fun i hi => (c3 _ (Nat.mod_lt _ (by decide))).resolve_left (inv i (by omega)).1
      obtain ⟨i, k, ik, k8, e⟩ := z_pigeon n 8192 (fun i => (σ 45 ((hcl (σ 40) + i) % 8192)).toNatClampNeg - 1) (by omega) fun i hi => by
        obtain ⟨s, hs, e⟩ := fv i hi
        rw [e, zo_n (by omega)]
        omega
      obtain ⟨s, hs, es⟩ := fv i (by omega)
      obtain ⟨s', hs', es'⟩ := fv k k8
      rw [es, es', zo_n (by omega), zo_n (by omega)] at e
      have ss : s = s' := by omega
      have pq := c5 _ _ (Nat.mod_lt (hcl (σ 40) + i) (by decide)) (Nat.mod_lt (hcl (σ 40) + k) (by decide)) (inv i (by omega)).1 (by rw [es, es', ss])
      omega
    · have j8 : j < 8192 := by
        by_cases c : j < 8192
        · exact c
        · exact absurd ((zo_le (k := 8192) (j := j) (by omega) (by omega)).mpr (by omega)) q
      have p8 : (hcl (σ 40) + j) % 8192 < 8192 := Nat.mod_lt _ (by decide)
      rw [zo_n (m := (hcl (σ 40) + j) % 8192) (by omega)]
      refine zp_ite (fun z => zp_some ⟨_, p8, rfl, Or.inl ⟨z, fun s hs same => ?_, j, j8, rfl, fun j' h' => (inv j' h').1⟩⟩) fun z => zp_chk fun _ => ?_
      · obtain ⟨k, k8, e, bef⟩ := c4 s hs
        rw [same.hsh] at e bef
        by_cases c : k < j
        · exact (inv k c).2 s hs e same
        · by_cases d : k = j
          · rw [d, z] at e
            have := zo_inj (k := 0) (j := s + 1) (by omega) (by omega) e
            omega
          · exact bef j (by omega) z
      · obtain ⟨s, hs, e⟩ := (c3 _ p8).resolve_left z
        have e1 : σ 45 ((hcl (σ 40) + j) % 8192) - 1 = Int32.ofNat s := by rw [e, zo_pred (by omega) (by omega)]; rfl
        rw [e1]
        refine zp_bind (zp_mono (c_isComing h6 n4 hs) fun r6 h => zp_ite (fun y => ?_) fun y => zp_some ⟨_, p8, rfl, Or.inr ⟨z, s, hs, ?_⟩⟩)
        · rcases h with h | h
          · exact absurd (h.1.symm.trans y) (by decide)
          · rw [zo_1 (by omega), zo_1 (by omega), z_mask (by omega), show ((hcl (σ 40) + j) % 8192 + 1) % 8192 = (hcl (σ 40) + (j + 1)) % 8192 by omega]
            refine ih (j + 1) (by omega) fun j' h' => ?_
            by_cases c : j' = j
            · rw [c]
              refine ⟨z, fun s' hs' e' => ?_⟩
              have : s' = s := by
                have := zo_inj (k := s' + 1) (j := s + 1) (by omega) (by omega) (e'.symm.trans e)
                omega
              rw [this]
              exact h.2
            · exact inv j' (by omega)
        · rcases h with h | h
          · exact h.2
          · exact absurd h.1 y
theorem c_where {N n : Nat} {σ : zS} (cb : CTB n σ) : zp (zf_Space_slotOfComing N σ) (fun r => PRB n σ r) := by
  refine c_slot ?_
  have l := hcl_lt (σ 40)
  have h := c_probe (N := N) cb N 0 (by omega) fun j' h' => absurd h' (Nat.not_lt_zero _)
  rw [show (hcl (σ 40) + 0) % 8192 = hcl (σ 40) by omega] at h
  exact h
def CNW (n : Nat) (way : Int32) (σ r : zS) : Prop := CTB (n + 1) r ∧ SAME5 (row5 r n) (σ 40) ∧ (∀ s, s < n → SAME5 (row5 r s) (row5 σ s)) ∧ r 43 = zu (σ 43) n way ∧ (∀ q, q ≠ 41 → q ≠ 42 → q ≠ 43 → q ≠ 45 → r q = σ q) ∧ (∀ i, i ≠ 6 → r 41 i = σ 41 i)
theorem CTB.add {n p : Nat} {σ r : zS} (cb : CTB n σ) (n4 : n < 4000) (p8 : p < 8192) (z : σ 45 p = 0) (bef : ∃ k, k < 8192 ∧ p = (hcl (σ 40) + k) % 8192 ∧ ∀ j, j < k → ¬ σ 45 ((hcl (σ 40) + j) % 8192) = 0) (e6 : r 41 6 = Int32.ofNat (n + 1)) (e45 : r 45 = zu (σ 45) p (Int32.ofNat (n + 1))) (en : SAME5 (row5 r n) (σ 40)) (eo : ∀ s, s < n → SAME5 (row5 r s) (row5 σ s)) : CTB (n + 1) r := by
  obtain ⟨_, h6, c3, c4, c5⟩ := cb
  have nz : ∀ q, ¬ σ 45 q = 0 → ¬ r 45 q = 0 ∧ r 45 q = σ 45 q := fun q hq => by
    have ne : q ≠ p := fun e => hq (by rw [e]; exact z)
    rw [e45, zu_ne ne]
    exact ⟨hq, rfl⟩
  have at_ : r 45 p = Int32.ofNat (n + 1) := by rw [e45, zu_eq]
  refine ⟨by omega, e6, fun q hq => ?_, fun s hs => ?_, fun a b ha hb na e => ?_⟩
  · by_cases c : q = p
    · exact Or.inr ⟨n, by omega, by rw [c]; exact at_⟩
    · rw [e45, zu_ne c]
      rcases c3 q hq with h | ⟨s, hs, h⟩
      · exact Or.inl h
      · exact Or.inr ⟨s, by omega, h⟩
  · by_cases c : s = n
    · subst c
      obtain ⟨k, k8, ep, bf⟩ := bef
      rw [en.hsh]
      exact ⟨k, k8, by rw [← ep]; exact at_, fun j hj => (nz _ (bf j hj)).1⟩
    · obtain ⟨k, k8, e, bf⟩ := c4 s (by omega)
      rw [(eo s (by omega)).hsh]
      have ne : ¬ σ 45 ((hcl (row5 σ s) + k) % 8192) = 0 := by
        rw [e]
        intro q
        have := zo_inj (k := s + 1) (j := 0) (by omega) (by omega) q
        omega
      exact ⟨k, k8, by rw [(nz _ ne).2]; exact e, fun j hj => (nz _ (bf j hj)).1⟩
  · have old : ∀ q, q < 8192 → ¬ r 45 q = 0 → q ≠ p → ∃ s, s < n ∧ σ 45 q = Int32.ofNat (s + 1) ∧ r 45 q = σ 45 q := fun q hq nq c => by
      have e' : r 45 q = σ 45 q := by rw [e45, zu_ne c]
      rw [e'] at nq
      obtain ⟨s, hs, h⟩ := (c3 q hq).resolve_left nq
      exact ⟨s, hs, h, e'⟩
    by_cases ca : a = p
    · by_cases cb' : b = p
      · rw [ca, cb']
      · obtain ⟨s, hs, h, e'⟩ := old b hb (by rw [← e]; exact na) cb'
        rw [ca, at_, e', h] at e
        have := zo_inj (k := n + 1) (j := s + 1) (by omega) (by omega) e
        omega
    · obtain ⟨s, hs, h, e'⟩ := old a ha na ca
      by_cases cb' : b = p
      · rw [cb', at_, e', h] at e
        have := zo_inj (k := s + 1) (j := n + 1) (by omega) (by omega) e
        omega
      · obtain ⟨s', hs', h', e''⟩ := old b hb (by rw [← e]; exact na) cb'
        refine c5 a b ha hb ?_ (by rw [← e', ← e'']; exact e)
        rw [← e']
        exact na
theorem zJ_copy_ne {σ : zS} {p q u : Nat} {a b c : Int32} (h : u ≠ q) : (zJ_copy σ p q a b c) u = σ u := by
  funext i
  unfold zJ_copy
  rw [if_neg h]
theorem c_note {N n : Nat} {way : Int32} {σ : zS} (cb : CTB n σ) : zp (zf_Space_note N σ way) (fun r => (r = (1, σ) ∧ ∃ s, s < n ∧ SAME5 (row5 σ s) (σ 40)) ∨ ((∀ s, s < n → ¬ SAME5 (row5 σ s) (σ 40)) ∧ ((n < 4000 ∧ r.1 = 1 ∧ CNW n way σ r.2) ∨ (n = 4000 ∧ r = (0, σ))))) := by
  have n4 := cb.1
  have h6 := cb.2.1
  unfold zf_Space_note
  refine zp_bind (zp_mono (c_where cb) ?_)
  rintro r1 ⟨p, p8, e, h⟩
  subst e
  rw [zo_n (m := p) (by omega), h6]
  refine zp_chk fun _ => zp_ite (fun z => ?_) fun z => ?_
  · rcases h with ⟨_, no, bef⟩ | ⟨nz, _⟩
    · refine zp_ite (fun q => ?_) fun _ => zp_ite (fun q => ?_) fun q => zp_some (Or.inr ⟨no, Or.inr ⟨?_, rfl⟩⟩)
      · have := (zo_lt (k := n) (j := 0) (by omega) (by omega)).mp q
        omega
      · have n4 := (zo_lt (k := n) (j := 4000) (by omega) (by omega)).mp q
        have m5 : Int32.ofNat n * 5 = Int32.ofNat (5 * n) := by
          show Int32.ofNat n * Int32.ofNat 5 = _
          rw [← Int32.ofNat_mul, Nat.mul_comm]
        have c6 : (zJ_copy σ 40 42 0 (Int32.ofNat (5 * n)) 5) 41 6 = Int32.ofNat n := by rw [zJ_copy_ne (by decide)]; exact h6
        rw [m5, c6, zo_n (m := n) (by omega), zo_1 (by omega)]
        have c42 : ∀ j, (zJ_copy σ 40 42 0 (Int32.ofNat (5 * n)) 5) 42 j = if 5 * n ≤ j ∧ j < 5 * n + 5 then σ 40 (j - 5 * n) else σ 42 j := fun j => by
          unfold zJ_copy va_cpy
          rw [if_pos rfl, zo_n (m := 5 * n) (by omega), show (5 : Int32).toNatClampNeg = 5 from rfl, show (0 : Int32).toNatClampNeg = 0 from rfl, Nat.zero_add]
        have cq : ∀ q, q ≠ 42 → (zJ_copy σ 40 42 0 (Int32.ofNat (5 * n)) 5) q = σ q := fun q hq => zJ_copy_ne hq
        generalize (zJ_copy σ 40 42 0 (Int32.ofNat (5 * n)) 5) = C at *
        have en : SAME5 (row5 (zx_up (zx_up (zx_up C 43 n way) 41 6 (Int32.ofNat (n + 1))) 45 p (Int32.ofNat (n + 1))) n) (σ 40) := fun i hi => by
          unfold row5
          rw [zu_other (by decide), zu_other (by decide), zu_other (by decide), c42, if_pos (by omega), show 5 * n + i - 5 * n = i by omega]
        have eo : ∀ s, s < n → SAME5 (row5 (zx_up (zx_up (zx_up C 43 n way) 41 6 (Int32.ofNat (n + 1))) 45 p (Int32.ofNat (n + 1))) s) (row5 σ s) := fun s hs i hi => by
          unfold row5
          rw [zu_other (by decide), zu_other (by decide), zu_other (by decide), c42, if_neg (by omega)]
        refine zp_chk fun _ => zp_chk fun _ => zp_chk fun _ => zp_some (Or.inr ⟨no, Or.inl ⟨n4, rfl, cb.add n4 p8 z bef ?_ ?_ en eo, en, eo, ?_, fun q a b c d => ?_, fun i hi => ?_⟩⟩)
        · dsimp only
          rw [zu_other (by decide), zx_up_same, zu_eq]
        · dsimp only
          rw [zx_up_same, zu_other (by decide), zu_other (by decide), cq 45 (by decide)]
        · dsimp only
          rw [zu_other (by decide), zu_other (by decide), zx_up_same, cq 43 (by decide)]
        · dsimp only
          rw [zu_other d, zu_other a, zu_other c, cq q b]
        · dsimp only
          rw [zu_other (by decide), zx_up_same, zu_ne hi, zu_other (by decide), cq 41 (by decide)]
      · by_cases c : n < 4000
        · exact absurd ((zo_lt (k := n) (j := 4000) (by omega) (by omega)).mpr c) q
        · omega
    · exact absurd z nz
  · rcases h with ⟨z', _⟩ | ⟨_, s, hs, same⟩
    · exact absurd z' z
    · exact zp_some (Or.inl ⟨rfl, s, hs, same⟩)
