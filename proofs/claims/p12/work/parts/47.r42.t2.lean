-- both answer alike
set_option maxRecDepth 2000
def hrn (x : Nat → Int32) : Nat → Int32
  | 0 => 7
  | i + 1 => hst (hrn x i) (x i)
def hrf (x : Nat → Int32) : Nat := (hrn x 40 &&& 8191).toNatClampNeg
def SAME40 (v w : Nat → Int32) : Prop := ∀ i, i < 40 → v i = w i
def row40 (μ : zS) (s : Nat) : Nat → Int32 := fun i => μ 108 (40 * s + i)
theorem hrn_congr {v w : Nat → Int32} : ∀ n, (∀ i, i < n → v i = w i) → hrn v n = hrn w n := by
  intro n
  induction n with
  | zero => intro _; rfl
  | succ n ih =>
    intro h
    show hst (hrn v n) (v n) = hst (hrn w n) (w n)
    rw [ih fun i hi => h i (by omega), h n (by omega)]
theorem SAME40.hsh {v w : Nat → Int32} (h : SAME40 v w) : hrf v = hrf w := by
  unfold hrf
  rw [hrn_congr 40 h]
theorem SAME40.sy {v w : Nat → Int32} (h : SAME40 v w) : SAME40 w v := fun i hi => (h i hi).symm
theorem SAME40.tr {u v w : Nat → Int32} (h : SAME40 u v) (g : SAME40 v w) : SAME40 u w := fun i hi => (h i hi).trans (g i hi)
theorem hrf_lt (x : Nat → Int32) : hrf x < 8192 := by
  have b := z_and (hrn x 40) 8191 (by decide)
  have n := z_nat b.1
  have l := Int32.le_iff_toInt_le.mp b.2
  have k : (8191 : Int32).toInt = 8191 := rfl
  unfold hrf
  omega
def CLL (f : Nat → Int32) : List Nat → Int32 → Prop
  | [], x => x = -1
  | k :: l, x => (x = Int32.ofNat k ∧ k < 8000) ∧ CLL f l (f k)
theorem CLL.of {f g : Nat → Int32} : ∀ {l : List Nat} {x : Int32}, CLL f l x → (∀ k, k ∈ l → g k = f k) → CLL g l x := by
  intro l
  induction l with
  | nil => intro x h _; exact h
  | cons k l ih =>
    intro x h e
    refine ⟨h.1, ?_⟩
    rw [e k (List.mem_cons_self ..)]
    exact ih h.2 fun k' hk => e k' (List.mem_cons_of_mem _ hk)
def RTB (b n : Nat) (μ : zS) : Prop := (n ≤ 4000 ∧ b ≤ 4000) ∧ μ 82 51 = Int32.ofNat b ∧ μ 82 52 = Int32.ofNat n ∧ ∀ h, h < 8192 → ∃ l, CLL (μ 110) l (μ 109 h) ∧ ∀ s, s ∈ l ↔ (b ≤ s ∧ s < b + n ∧ hrf (row40 μ s) = h)
theorem zo_mul40 {s i : Nat} (hs : s ≤ 8000) (hi : i ≤ 40) : 40 * Int32.ofNat s + Int32.ofNat i = Int32.ofNat (40 * s + i) := by
  show Int32.ofNat 40 * Int32.ofNat s + Int32.ofNat i = Int32.ofNat (40 * s + i)
  rw [← Int32.ofNat_mul, ← Int32.ofNat_add]
theorem zo_nb {m : Nat} (h : m ≤ 1000000) : (Int32.ofNat m).toNatClampNeg = m := by
  have e : (Int32.ofNat m).toInt = (m : Int) := Int32.toInt_ofNat_of_lt (by omega)
  have h0 : (0 : Int32) ≤ Int32.ofNat m := Int32.le_iff_toInt_le.mpr (by rw [e]; exact Int.natCast_nonneg _)
  have n := z_nat h0
  omega
theorem m_hash {N : Nat} {μ : zS} {Q : Int32 × zS → Prop} (h : zp (zb_M_put_50 N N μ (Int32.ofNat (hrf (μ 107))) (μ 109 (hrf (μ 107)))) Q) : zp (zf_M_put N μ) Q := by
  have go : ∀ (m i : Nat), i ≤ 40 → zp (zb_M_put_5 N m μ (hrn (μ 107) i) (Int32.ofNat i)) Q := by
    intro m
    induction m with
    | zero => intro _ _; exact zp_none
    | succ m ih =>
      intro i hi
      rw [zb_M_put_5]
      refine zp_ite (fun q => zp_chk fun _ => ?_) fun q => zp_chk fun _ => ?_
      · have e : i = 40 := by
          have := (zo_le (k := 40) (j := i) (by omega) (by omega)).mp q
          omega
        subst e
        have e : hrn (μ 107) 40 &&& 8191 = Int32.ofNat (hrf (μ 107)) := (zo_mk (z_and _ 8191 (by decide)).1).symm
        have l := hrf_lt (μ 107)
        rw [e, zo_n (by omega)]
        exact h
      · have lt : i < 40 := by
          by_cases c : i < 40
          · exact c
          · exact absurd ((zo_le (k := 40) (j := i) (by omega) (by omega)).mpr (by omega)) q
        rw [zo_n (by omega), zo_1 (by omega)]
        exact ih (i + 1) (by omega)
  unfold zf_M_put
  exact go N 0 (by omega)
theorem m_cmp {N k : Nat} {μ : zS} {v1 : Int32} {k50 : zS → Int32 → Int32 → Option (Int32 × zS)} {Q : Int32 × zS → Prop} (hk : k < 8000) (yes : SAME40 (row40 μ k) (μ 107) → Q (Int32.ofNat k, μ)) (no : ¬ SAME40 (row40 μ k) (μ 107) → zp (k50 μ v1 (μ 110 k)) Q) : ∀ (m i : Nat), i ≤ 40 → (∀ j, j < i → row40 μ k j = μ 107 j) → zp (zb_M_put_60 k50 N m μ v1 (Int32.ofNat k) 1 (Int32.ofNat i)) Q := by
  have out : ∀ (m : Nat) (v : Int32), ¬ SAME40 (row40 μ k) (μ 107) → zp (zb_M_put_60 k50 N m μ v1 (Int32.ofNat k) 0 v) Q := by
    intro m v n
    have A : zp (zb_M_put_105 k50 N μ v1 (Int32.ofNat k) 0) Q := by
      unfold zb_M_put_105
      rw [zo_n (m := k) (by omega)]
      exact zp_ite (fun _ => zp_chk fun _ => no n) fun q => absurd rfl q
    cases m with
    | zero => exact zp_none
    | succ m =>
      rw [zb_M_put_60]
      exact zp_ite (fun _ => A) fun _ => zp_ite (fun _ => A) fun q => absurd rfl q
  intro m
  induction m with
  | zero => intro _ _ _; exact zp_none
  | succ m ih =>
    intro i hi h
    rw [zb_M_put_60]
    unfold zb_M_put_98
    refine zp_ite (fun q => ?_) fun q => zp_ite (fun z => absurd z (by decide)) fun _ => zp_chk fun _ => zp_chk fun _ => ?_
    · have e : i = 40 := by
        have := (zo_le (k := 40) (j := i) (by omega) (by omega)).mp q
        omega
      subst e
      unfold zb_M_put_105
      exact zp_ite (fun z => absurd z (by decide)) fun _ => zp_some (yes h)
    · have lt : i < 40 := by
        by_cases c : i < 40
        · exact c
        · exact absurd ((zo_le (k := 40) (j := i) (by omega) (by omega)).mpr (by omega)) q
      rw [zo_mul40 (by omega) (by omega), zo_nb (m := 40 * k + i) (by omega), zo_n (m := i) (by omega), zo_1 (by omega)]
      refine zp_ite (fun e => out m _ fun s => e (s i lt)) fun e => ih (i + 1) (by omega) fun j hj => ?_
      by_cases c : j = i
      · rw [c]; exact Classical.not_not.mp e
      · exact h j (by omega)
def RNW (b n : Nat) (μ r : zS) : Prop := RTB b (n + 1) r ∧ SAME40 (row40 r (b + n)) (μ 107) ∧ (∀ s, s ≠ b + n → SAME40 (row40 r s) (row40 μ s)) ∧ (∀ q, q ≠ 82 → q ≠ 108 → q ≠ 109 → q ≠ 110 → r q = μ q) ∧ (∀ i, i ≠ 52 → r 82 i = μ 82 i)
theorem RTB.add {b n : Nat} {μ r : zS} (rb : RTB b n μ) (n4 : n < 4000) (e51 : r 82 51 = μ 82 51) (e52 : r 82 52 = Int32.ofNat (n + 1)) (en : SAME40 (row40 r (b + n)) (μ 107)) (eo : ∀ s, s ≠ b + n → SAME40 (row40 r s) (row40 μ s)) (e110 : r 110 = zu (μ 110) (b + n) (μ 109 (hrf (μ 107)))) (e109 : r 109 = zu (μ 109) (hrf (μ 107)) (Int32.ofNat (b + n))) : RTB b (n + 1) r := by
  obtain ⟨⟨_, b4⟩, h51, h52, ch⟩ := rb
  refine ⟨⟨by omega, b4⟩, e51.trans h51, e52, fun h hh => ?_⟩
  obtain ⟨l, cl, mem⟩ := ch h hh
  have ol : ∀ k, k ∈ l → r 110 k = μ 110 k := fun k hk => by
    rw [e110, zu_ne]
    have := ((mem k).mp hk).2.1
    omega
  have hs : ∀ s, s ≠ b + n → hrf (row40 r s) = hrf (row40 μ s) := fun s ne => (eo s ne).hsh
  by_cases c : h = hrf (μ 107)
  · refine ⟨(b + n) :: l, ⟨⟨by rw [e109, c, zu_eq], by omega⟩, ?_⟩, fun s => ?_⟩
    · rw [e110, zu_eq, ← c]
      rw [e110, ← c] at ol
      exact cl.of ol
    · rw [List.mem_cons, mem s]
      by_cases d : s = b + n
      · rw [d, en.hsh]
        exact ⟨fun _ => ⟨by omega, by omega, c.symm⟩, fun _ => Or.inl rfl⟩
      · rw [hs s d]
        exact ⟨fun q => q.elim (fun e => absurd e d) fun q => ⟨q.1, by omega, q.2.2⟩, fun q => Or.inr ⟨q.1, by omega, q.2.2⟩⟩
  · refine ⟨l, ?_, fun s => ?_⟩
    · rw [e109, zu_ne c]
      exact cl.of ol
    · rw [mem s]
      by_cases d : s = b + n
      · rw [d, en.hsh]
        exact ⟨fun q => by omega, fun q => absurd q.2.2.symm c⟩
      · rw [hs s d]
        exact ⟨fun q => ⟨q.1, by omega, q.2.2⟩, fun q => ⟨q.1, by omega, q.2.2⟩⟩
theorem m_put {N b n : Nat} {μ : zS} (rb : RTB b n μ) (bt : ∀ i, i < 40 → 0 ≤ μ 107 i ∧ μ 107 i ≤ 127) : zp (zf_M_put N μ) (fun r => (∃ s, b ≤ s ∧ s < b + n ∧ r = (Int32.ofNat s, μ) ∧ SAME40 (row40 μ s) (μ 107)) ∨ ((∀ s, b ≤ s → s < b + n → ¬ SAME40 (row40 μ s) (μ 107)) ∧ ((n < 4000 ∧ r.1 = Int32.ofNat (b + n) ∧ RNW b n μ r.2) ∨ (n = 4000 ∧ r = (-1, μ))))) := by
  have rb' := rb
  obtain ⟨⟨n4, b4⟩, h51, h52, ch⟩ := rb
  have l8 := hrf_lt (μ 107)
  refine m_hash ?_
  obtain ⟨l0, cl0, mem0⟩ := ch _ l8
  have fin : (∀ s, b ≤ s → s < b + n → ¬ SAME40 (row40 μ s) (μ 107)) → n < 4000 → ∀ (m i : Nat) (ν : zS), i ≤ 40 → (∀ q, q ≠ 108 → ν q = μ q) → (∀ j, ν 108 j = if 40 * (b + n) ≤ j ∧ j < 40 * (b + n) + i then μ 107 (j - 40 * (b + n)) else μ 108 j) → zp (zb_M_put_145 N m ν (Int32.ofNat (hrf (μ 107))) (Int32.ofNat (b + n)) (Int32.ofNat i)) (fun r => (∃ s, b ≤ s ∧ s < b + n ∧ r = (Int32.ofNat s, μ) ∧ SAME40 (row40 μ s) (μ 107)) ∨ ((∀ s, b ≤ s → s < b + n → ¬ SAME40 (row40 μ s) (μ 107)) ∧ ((n < 4000 ∧ r.1 = Int32.ofNat (b + n) ∧ RNW b n μ r.2) ∨ (n = 4000 ∧ r = (-1, μ))))) := by
    intro no nn m
    induction m with
    | zero => intro _ _ _ _ _; exact zp_none
    | succ m ih =>
      intro i ν hi fr f8
      rw [zb_M_put_145]
      refine zp_ite (fun q => ?_) fun q => zp_chk fun _ => zp_chk fun _ => ?_
      · have e : i = 40 := by
          have := (zo_le (k := 40) (j := i) (by omega) (by omega)).mp q
          omega
        subst e
        rw [zo_n (m := b + n) (by omega), zo_n (m := hrf (μ 107)) (by omega), fr 109 (by decide), fr 82 (by decide), h52, zo_1 (by omega)]
        have en : SAME40 (row40 (zx_up (zx_up (zx_up ν 110 (b + n) (μ 109 (hrf (μ 107)))) 109 (hrf (μ 107)) (Int32.ofNat (b + n))) 82 52 (Int32.ofNat (n + 1))) (b + n)) (μ 107) := fun i hi => by
          unfold row40
          rw [zu_other (by decide), zu_other (by decide), zu_other (by decide), f8, if_pos (by omega), show 40 * (b + n) + i - 40 * (b + n) = i by omega]
        have eo : ∀ s, s ≠ b + n → SAME40 (row40 (zx_up (zx_up (zx_up ν 110 (b + n) (μ 109 (hrf (μ 107)))) 109 (hrf (μ 107)) (Int32.ofNat (b + n))) 82 52 (Int32.ofNat (n + 1))) s) (row40 μ s) := fun s hs i hi => by
          unfold row40
          rw [zu_other (by decide), zu_other (by decide), zu_other (by decide), f8, if_neg (by omega)]
        refine zp_chk fun _ => zp_chk fun _ => zp_chk fun _ => zp_some (Or.inr ⟨no, Or.inl ⟨nn, rfl, rb'.add nn ?_ ?_ en eo ?_ ?_, en, eo, fun q a b c d => ?_, fun i hi => ?_⟩⟩)
        · dsimp only
          rw [zx_up_same, zu_ne (by decide), zu_other (by decide), zu_other (by decide), fr 82 (by decide)]
        · dsimp only
          rw [zx_up_same, zu_eq]
        · dsimp only
          rw [zu_other (by decide), zu_other (by decide), zx_up_same, fr 110 (by decide)]
        · dsimp only
          rw [zu_other (by decide), zx_up_same, zu_other (by decide), fr 109 (by decide)]
        · dsimp only
          rw [zu_other a, zu_other c, zu_other d, fr q b]
        · dsimp only
          rw [zx_up_same, zu_ne hi, zu_other (by decide), zu_other (by decide), fr 82 (by decide)]
      · have lt : i < 40 := by
          by_cases c : i < 40
          · exact c
          · exact absurd ((zo_le (k := 40) (j := i) (by omega) (by omega)).mpr (by omega)) q
        have bi := bt i lt
        have e : zJ_byte (zJ_byte (ν 107 i)) = μ 107 i := by
          rw [fr 107 (by decide)]
          have a : (-128 : Int32) ≤ μ 107 i := Int32.le_trans (by decide) bi.1
          rw [zk_byte a bi.2, zk_byte a bi.2]
        rw [zo_mul40 (by omega) (by omega), zo_nb (m := 40 * (b + n) + i) (by omega), zo_n (m := i) (by omega), zo_1 (by omega), e]
        refine ih (i + 1) _ (by omega) (fun q hq => by rw [zu_other hq]; exact fr q hq) fun j => ?_
        rw [zx_up_same]
        by_cases c : j = 40 * (b + n) + i
        · rw [c, zu_eq, if_pos (by omega), show 40 * (b + n) + i - 40 * (b + n) = i by omega]
        · rw [zu_ne c, f8]
          by_cases d : 40 * (b + n) ≤ j ∧ j < 40 * (b + n) + i
          · rw [if_pos d, if_pos (by omega)]
          · rw [if_neg d, if_neg (by omega)]
  have go : ∀ (m : Nat) (l : List Nat) (x : Int32), CLL (μ 110) l x → (∀ k, k ∈ l → b ≤ k ∧ k < b + n) → (∀ s, b ≤ s → s < b + n → hrf (row40 μ s) = hrf (μ 107) → s ∈ l ∨ ¬ SAME40 (row40 μ s) (μ 107)) → zp (zb_M_put_50 N m μ (Int32.ofNat (hrf (μ 107))) x) (fun r => (∃ s, b ≤ s ∧ s < b + n ∧ r = (Int32.ofNat s, μ) ∧ SAME40 (row40 μ s) (μ 107)) ∨ ((∀ s, b ≤ s → s < b + n → ¬ SAME40 (row40 μ s) (μ 107)) ∧ ((n < 4000 ∧ r.1 = Int32.ofNat (b + n) ∧ RNW b n μ r.2) ∨ (n = 4000 ∧ r = (-1, μ))))) := by
    intro m
    induction m with
    | zero => intro _ _ _ _ _; exact zp_none
    | succ m ih =>
      intro l x cl rg nm
      rw [zb_M_put_50]
      cases l with
      | nil =>
        have no : ∀ s, b ≤ s → s < b + n → ¬ SAME40 (row40 μ s) (μ 107) := fun s s1 s2 same => by
          rcases nm s s1 s2 same.hsh with h | h
          · exact absurd h (List.not_mem_nil)
          · exact h same
        refine zp_ite (fun _ => ?_) fun q => absurd cl q
        rw [h51, h52]
        refine zp_ite (fun q => ?_) fun q => zp_some (Or.inr ⟨no, Or.inr ⟨zo_inj (by omega) (by omega) (Classical.not_not.mp q), rfl⟩⟩)
        have nn : n < 4000 := by
          by_cases c : n = 4000
          · exact absurd (by rw [c]; rfl) q
          · omega
        rw [← Int32.ofNat_add]
        refine fin no nn N 0 μ (by omega) (fun _ _ => rfl) fun j => ?_
        rw [if_neg (by omega)]
      | cons k l =>
        obtain ⟨⟨ex, k8⟩, cl'⟩ := cl
        have kr := rg k (List.mem_cons_self ..)
        refine zp_ite (fun q => absurd (ex.symm.trans q) (zo_ne (by omega))) fun _ => ?_
        rw [ex]
        refine m_cmp k8 (fun same => Or.inl ⟨k, kr.1, kr.2, rfl, same⟩) (fun ns => ih l _ cl' (fun k' hk => rg k' (List.mem_cons_of_mem _ hk)) fun s s1 s2 sh => ?_) N 0 (by omega) fun j hj => absurd hj (Nat.not_lt_zero _)
        rcases nm s s1 s2 sh with h | h
        · rcases List.mem_cons.mp h with e | h
          · exact Or.inr (by rw [e]; exact ns)
          · exact Or.inl h
        · exact Or.inr h
  exact go N l0 _ cl0 (fun k hk => ⟨((mem0 k).mp hk).1, ((mem0 k).mp hk).2.1⟩) fun s s1 s2 sh => Or.inl ((mem0 s).mpr ⟨s1, s2, sh⟩)
theorem m_load {N b n s : Nat} {μ : zS} (hs : s < 8000) : zp (zf_M_load N μ (Int32.ofNat s)) (fun r => (∀ q, q ≠ 107 → r q = μ q) ∧ (∀ i, i < 40 → r 107 i = row40 μ s i)) := by
  have go : ∀ (m i : Nat) (ν : zS), i ≤ 40 → (∀ q, q ≠ 107 → ν q = μ q) → (∀ j, j < i → ν 107 j = row40 μ s j) → zp (zb_M_load_2 N m ν (Int32.ofNat s) (Int32.ofNat i)) (fun r => (∀ q, q ≠ 107 → r q = μ q) ∧ (∀ i, i < 40 → r 107 i = row40 μ s i)) := by
    intro m
    induction m with
    | zero => intro _ _ _ _ _; exact zp_none
    | succ m ih =>
      intro i ν hi fr f
      rw [zb_M_load_2]
      refine zp_ite (fun q => zp_some ⟨fr, fun j hj => f j ?_⟩) fun q => zp_chk fun _ => zp_chk fun _ => ?_
      · have := (zo_le (k := 40) (j := i) (by omega) (by omega)).mp q
        omega
      · have lt : i < 40 := by
          by_cases c : i < 40
          · exact c
          · exact absurd ((zo_le (k := 40) (j := i) (by omega) (by omega)).mpr (by omega)) q
        rw [zo_mul40 (by omega) (by omega), zo_nb (m := 40 * s + i) (by omega), zo_n (m := i) (by omega), zo_1 (by omega), fr 108 (by decide)]
        refine ih (i + 1) _ (by omega) (fun q hq => by rw [zu_other hq]; exact fr q hq) fun j hj => ?_
        rw [zx_up_same]
        by_cases c : j = i
        · rw [c, zu_eq]; rfl
        · rw [zu_ne c]; exact f j (by omega)
  unfold zf_M_load
  exact go N 0 μ (by omega) (fun _ _ => rfl) fun j hj => absurd hj (Nat.not_lt_zero _)
theorem m_forget {N b : Nat} {μ : zS} (b4 : b ≤ 4000) : zp (zf_M_forget N μ (Int32.ofNat b)) (fun r => RTB b 0 r ∧ (∀ q, q ≠ 82 → q ≠ 109 → r q = μ q) ∧ (∀ i, i ≠ 51 → i ≠ 52 → r 82 i = μ 82 i)) := by
  have go : ∀ (m i : Nat) (ν : zS), i ≤ 8192 → (∀ q, q ≠ 109 → ν q = μ q) → (∀ j, j < i → ν 109 j = -1) → zp (zb_M_forget_2 N m ν (Int32.ofNat b) (Int32.ofNat i)) (fun r => RTB b 0 r ∧ (∀ q, q ≠ 82 → q ≠ 109 → r q = μ q) ∧ (∀ i, i ≠ 51 → i ≠ 52 → r 82 i = μ 82 i)) := by
    intro m
    induction m with
    | zero => intro _ _ _ _ _; exact zp_none
    | succ m ih =>
      intro i ν hi fr f
      rw [zb_M_forget_2]
      refine zp_ite (fun q => zp_some ⟨⟨⟨by omega, b4⟩, ?_, ?_, fun h hh => ⟨[], ?_, fun s => ?_⟩⟩, fun q a b => ?_, fun i a b => ?_⟩) fun q => zp_chk fun _ => ?_
      · rw [zx_up_same, zu_ne (by decide), zx_up_same, zu_eq]
      · rw [zx_up_same, zu_eq]; rfl
      · have := (zo_le (k := 8192) (j := i) (by omega) (by omega)).mp q
        show (zx_up (zx_up ν 82 51 (Int32.ofNat b)) 82 52 0) 109 h = -1
        rw [zu_other (by decide), zu_other (by decide)]
        exact f h (by omega)
      · exact ⟨fun h => absurd h (List.not_mem_nil), fun h => by omega⟩
      · rw [zu_other a, zu_other a, fr q b]
      · rw [zx_up_same, zu_ne b, zx_up_same, zu_ne a, fr 82 (by decide)]
      · have lt : i < 8192 := by
          by_cases c : i < 8192
          · exact c
          · exact absurd ((zo_le (k := 8192) (j := i) (by omega) (by omega)).mpr (by omega)) q
        rw [zo_n (m := i) (by omega), zo_1 (by omega)]
        refine ih (i + 1) _ (by omega) (fun q hq => by rw [zu_other hq]; exact fr q hq) fun j hj => ?_
        rw [zx_up_same]
        by_cases c : j = i
        · rw [c, zu_eq]
        · rw [zu_ne c]; exact f j (by omega)
  unfold zf_M_forget
  exact go N 0 μ (by omega) (fun _ _ => rfl) fun j hj => absurd hj (Nat.not_lt_zero _)
