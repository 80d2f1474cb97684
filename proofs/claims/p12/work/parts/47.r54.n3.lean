-- both answer alike
set_option maxRecDepth 2000
def hw0 (ρ : zS) (t : Nat) : Int32 := if ρ 6 t = 0 then (if ρ 5 t = 0 then 4 else 1) else 0
def FSTW (ρ : zS) (w : Nat → Int32) : Prop := w 0 = ρ 4 5 ∧ ∀ t, t < 4 → w (t + 1) = zJ_shl (hw0 ρ t) 14
theorem c_starters {σ : zS} {t : Nat} (t4 : t < 4) : zp (zf_Program_startersOf σ (Int32.ofNat t)) (fun r => r = σ 6 t) := by
  unfold zf_Program_startersOf
  refine zp_ite (fun q => ?_) fun _ => zp_ite (fun q => ?_) fun _ => zp_chk fun _ => zp_some (by rw [zo_n (by omega)])
  · have := (zo_lt (k := t) (j := 0) (by omega) (by omega)).mp q
    omega
  · have := (zo_le (k := 4) (j := t) (by omega) (by omega)).mp q
    omega
theorem c_setFirst {N : Nat} {σ : zS} : zp (zf_Machine_setFirst N σ) (fun r => (∀ q, q ≠ 40 → r q = σ q) ∧ FSTW σ (r 40)) := by
  have go : ∀ (n t : Nat) (ν : zS), t ≤ 4 → (∀ q, q ≠ 40 → ν q = σ q) → ν 40 0 = σ 4 5 → (∀ u, u < t → ν 40 (u + 1) = zJ_shl (hw0 σ u) 14) → zp (zb_Machine_setFirst_15 N n ν (Int32.ofNat t)) (fun r => (∀ q, q ≠ 40 → r q = σ q) ∧ FSTW σ (r 40)) := by
    intro n
    induction n with
    | zero => intro _ _ _ _ _ _; exact zp_none
    | succ n ih =>
      intro t ν t4 fr f0 f
      rw [zb_Machine_setFirst_15]
      unfold zb_Machine_setFirst_36 zb_Machine_setFirst_50
      refine zp_ite (fun q => zp_some ⟨fr, f0, fun u hu => f u ?_⟩) fun q => ?_
      · have := (zo_le (k := 4) (j := t) (by omega) (by omega)).mp q
        omega
      · have lt : t < 4 := by
          by_cases c : t < 4
          · exact c
          · exact absurd ((zo_le (k := 4) (j := t) (by omega) (by omega)).mpr (by omega)) q
        rw [zo_1 (by omega), zo_n (m := t + 1) (by omega)]
        have st : ∀ h : Int32, h = hw0 σ t → zp (zb_Machine_setFirst_15 N n (zx_up ν 40 (t + 1) (zJ_shl h 14)) (Int32.ofNat (t + 1))) (fun r => (∀ q, q ≠ 40 → r q = σ q) ∧ FSTW σ (r 40)) := fun h e => by
          refine ih (t + 1) _ (by omega) (fun q hq => by rw [zu_other hq]; exact fr q hq) (by rw [zx_up_same, zu_ne (by omega)]; exact f0) fun u hu => ?_
          rw [zx_up_same]
          by_cases c : u = t
          · rw [c, zu_eq, e]
          · rw [zu_ne (by omega)]; exact f u (by omega)
        refine zp_bind (zp_mono (p_X_lengthOf lt) fun r2 e2 => ?_)
        rw [fr 5 (by decide)] at e2
        subst e2
        refine zp_ite (fun n5 => zp_bind (zp_mono (c_starters lt) fun r4 e4 => ?_)) fun n5 => zp_bind (zp_mono (c_starters lt) fun r4 e4 => ?_)
        · rw [fr 6 (by decide)] at e4
          subst e4
          refine zp_ite (fun z => zp_chk fun _ => st 1 ?_) fun z => zp_chk fun _ => st 0 ?_
          · unfold hw0; rw [if_pos z, if_neg n5]
          · unfold hw0; rw [if_neg z]
        · rw [fr 6 (by decide)] at e4
          subst e4
          refine zp_ite (fun z => zp_chk fun _ => st 4 ?_) fun z => zp_chk fun _ => st 0 ?_
          · unfold hw0; rw [if_pos z, if_pos (Classical.not_not.mp n5)]
          · unfold hw0; rw [if_neg z]
  unfold zf_Machine_setFirst
  exact go N 0 _ (by omega) (fun q hq => zu_other hq) (by rw [zx_up_same, zu_eq]) fun u hu => absurd hu (Nat.not_lt_zero _)
theorem c_fill45 {N : Nat} {σ : zS} : zp (zf_Arrays_fill_c3 N σ 0) (fun r => (∀ q, q ≠ 45 → r q = σ q) ∧ ∀ p, p < 8192 → r 45 p = 0) := by
  have go : ∀ (n i : Nat) (ν : zS), i ≤ 8192 → (∀ q, q ≠ 45 → ν q = σ q) → (∀ l, l < i → ν 45 l = 0) → zp (zb_Arrays_fill_c3_5 N n ν 0 (Int32.ofNat i) 8192) (fun r => (∀ q, q ≠ 45 → r q = σ q) ∧ ∀ p, p < 8192 → r 45 p = 0) := by
    intro n
    induction n with
    | zero => intro _ _ _ _ _; exact zp_none
    | succ n ih =>
      intro i ν hi fr f
      rw [zb_Arrays_fill_c3_5]
      refine zp_ite (fun q => zp_some ⟨fr, fun l hl => f l ?_⟩) fun q => zp_chk fun _ => ?_
      · have := (zo_le (k := 8192) (j := i) (by omega) (by omega)).mp q
        omega
      · rw [zo_n (by omega), zo_1 (by omega)]
        have lt : i < 8192 := by
          by_cases c : i < 8192
          · exact c
          · exact absurd ((zo_le (k := 8192) (j := i) (by omega) (by omega)).mpr (by omega)) q
        refine ih (i + 1) _ (by omega) (fun q hq => by rw [zu_other hq]; exact fr q hq) fun l hl => ?_
        rw [zx_up_same]
        by_cases c : l = i
        · rw [c, zu_eq]
        · rw [zu_ne c]; exact f l (by omega)
  unfold zf_Arrays_fill_c3
  exact go N 0 σ (by omega) (fun _ _ => rfl) fun l hl => absurd hl (Nat.not_lt_zero _)
def FND (m : Nat) (len : Nat → Nat) (nc : Nat → Nat → Nat) (ρ : zS) (ok : Prop) (sz : Int32) : Prop := (ok ∧ ∃ n W, n ≤ 4000 ∧ 0 < n ∧ sz = Int32.ofNat n ∧ FSTW ρ (W 0) ∧ (∀ i j, i < j → j < n → ¬ SAME5 (W i) (W j)) ∧ TRQ m len nc ρ W n n) ∨ (¬ ok ∧ ∃ W, FSTW ρ (W 0) ∧ (∀ i j, i < j → j < 4000 → ¬ SAME5 (W i) (W j)) ∧ MNY m len nc ρ W)
theorem c_explore {N m : Nat} {len : Nat → Nat} {nc : Nat → Nat → Nat} {ρ μ σ : zS} (pc : PC m len nc ρ μ) (e : ∀ q, 4 ≤ q → q ≤ 16 → σ q = ρ q) : zp (zf_Space_explore N σ (-1)) (fun r => (r.1 = 0 ∨ r.1 = 1) ∧ FND m len nc ρ (r.1 = 1) (r.2 41 6) ∧ (∀ q, (q < 36 ∨ 45 < q) → r.2 q = σ q)) := by
  unfold zf_Space_explore
  refine zp_bind (zp_mono c_fill45 fun r1 h1 => zp_bind (zp_mono c_setFirst fun r2 h2 => ?_))
  obtain ⟨f1, z1⟩ := h1
  obtain ⟨f2, fs⟩ := h2
  have p2 : ∀ q, 4 ≤ q → q ≤ 16 → r2 q = ρ q := fun q a b => by rw [f2 q (by omega), f1 q (by omega), zu_other (by omega)]; exact e q a b
  have z45 : ∀ p, p < 8192 → r2 45 p = 0 := fun p hp => by rw [f2 45 (by decide)]; exact z1 p hp
  have ff : ∀ q, (q < 36 ∨ 45 < q) → r2 q = σ q := fun q hq => by rw [f2 q (by omega), f1 q (by omega), zu_other (by omega)]
  have fs' : FSTW ρ (r2 40) := by
    unfold FSTW hw0 at *
    have g : ∀ q, 4 ≤ q → q ≤ 16 → r1 q = ρ q := fun q a b => by rw [f1 q (by omega), zu_other (by omega)]; exact e q a b
    rw [g 4 (by decide) (by decide), g 5 (by decide) (by decide), g 6 (by decide) (by decide)] at fs
    exact fs
  have gs : GST ρ 0 (fun _ _ => 0) r2 := ⟨p2, ⟨by omega, by rw [f2 41 (by decide), f1 41 (by decide), zx_up_same, zu_eq]; rfl, fun p hp => Or.inl (z45 p hp), fun s hs => absurd hs (Nat.not_lt_zero _), fun p q hp _ np => absurd (z45 p hp) np⟩, fun j hj => absurd hj (Nat.not_lt_zero _), fun i j _ hj => absurd hj (Nat.not_lt_zero _)⟩
  refine zp_bind (zp_mono (c_noteG gs) fun r3 h3 => ?_)
  rcases h3 with ⟨_, j, hj, _⟩ | ⟨_, ⟨_, e1, gs1, fr, _⟩ | ⟨n4, _⟩⟩
  · exact absurd hj (Nat.not_lt_zero _)
  · rw [e1]
    have W0 : (fun j => if j = 0 then r2 40 else (fun _ _ => (0 : Int32)) j) 0 = r2 40 := if_pos rfl
    generalize (fun j => if j = 0 then r2 40 else (fun _ _ => (0 : Int32)) j) = W at *
    have tq : TRQ m len nc ρ W 0 1 := ⟨fun _ _ => 1, rfl, rfl, fun s hs => absurd hs (Nat.not_lt_zero _), fun s hs => absurd hs (Nat.not_lt_zero _), fun s t hs => absurd hs (Nat.not_lt_zero _)⟩
    refine zp_mono (c_loop (N := N) pc N 0 r3.2 1 W (by omega) gs1 tq) fun r hr => ?_
    have fin : ∀ q, (q < 36 ∨ 45 < q) → r.2 q = σ q := fun q hq => (hr.2 q hq).trans ((fr q (by omega) (by omega) (by omega) (by omega)).trans (ff q hq))
    rcases hr.1 with ⟨e, n, W', w0, gs', tr⟩ | ⟨e, W', w0, gs', mn⟩
    · have pos : 0 < n := by
        obtain ⟨M, m0, mT, _⟩ := tr
        by_cases c : n = 0
        · subst c; omega
        · omega
      refine ⟨Or.inr e, Or.inl ⟨e, n, W', gs'.2.1.1, pos, gs'.2.1.2.1, by rw [w0, W0]; exact fs', gs'.2.2.2, tr⟩, fin⟩
    · exact ⟨Or.inl e, Or.inr ⟨by rw [e]; decide, W', by rw [w0, W0]; exact fs', gs'.2.2.2, mn⟩, fin⟩
  · omega
def xf (ρ μ : zS) (c0 T i : Nat) : Int32 := if i < 6 then (if i < c0 then μ 89 i else 0) else if 15 ≤ i ∧ (i - 15) % 6 = 0 ∧ (i - 15) / 6 < T then hw0 ρ ((i - 15) / 6) else 0
theorem xf_how {ρ μ : zS} {c0 T t : Nat} (h : t < T) : xf ρ μ c0 T (15 + 6 * t) = hw0 ρ t := by
  unfold xf
  rw [if_neg (by omega), if_pos (by omega), show (15 + 6 * t - 15) / 6 = t by omega]
theorem xf_no {ρ μ : zS} {c0 T i : Nat} (h6 : 6 ≤ i) (h : ∀ t, t < T → i ≠ 15 + 6 * t) : xf ρ μ c0 T i = 0 := by
  unfold xf
  rw [if_neg (by omega), if_neg]
  intro k
  exact h ((i - 15) / 6) k.2.2 (by omega)
theorem xf_suc {ρ μ : zS} {c0 T i : Nat} (h : i ≠ 15 + 6 * T) : xf ρ μ c0 (T + 1) i = xf ρ μ c0 T i := by
  unfold xf
  by_cases c : i < 6
  · rw [if_pos c, if_pos c]
  · rw [if_neg c, if_neg c]
    by_cases d : 15 ≤ i ∧ (i - 15) % 6 = 0 ∧ (i - 15) / 6 < T
    · rw [if_pos d, if_pos (by omega)]
    · rw [if_neg d, if_neg (by omega)]
def STA (m : Nat) (len : Nat → Nat) (ρ : zS) : Prop := (∀ t, t < m → (ρ 6 t = 0 ↔ ∀ u s, u < m → s < len u → ρ 7 (24 * u + s) = 10 → ¬ ρ 8 (24 * u + s) = Int32.ofNat t)) ∧ ∀ t, m ≤ t → t < 4 → ρ 6 t = 0
theorem m_begin0 {N m t c0 : Nat} {len : Nat → Nat} {nc : Nat → Nat → Nat} {ρ μ ν : zS} (pc : PC m len nc ρ μ) (ht : t < m) (r6 : ρ 6 t = 0) (fr : ∀ q, q ≠ 107 → ν q = μ q) (f : ∀ i, i < 40 → ν 107 i = xf ρ μ c0 t i) : zp (zf_M_begin N ν (Int32.ofNat t)) (fun s => (∀ q, q ≠ 107 → s q = μ q) ∧ ∀ i, i < 40 → s 107 i = xf ρ μ c0 (t + 1) i) := by
  obtain ⟨⟨m4, _, _⟩, p2, _⟩ := pc
  have t4 : t < 4 := by omega
  obtain ⟨l24, e5, e90⟩ := p2 t ht
  have z14 : xf ρ μ c0 t (14 + 6 * t) = 0 := xf_no (by omega) fun u hu => by omega
  unfold zf_M_begin zf_M_goTo zf_M_at
  rw [zo_at t4]
  refine zp_bind (zp_some ?_)
  rw [zo_1 (m := 14 + 6 * t) (by omega), zo_n (m := 14 + 6 * t + 1) (by omega), show 14 + 6 * t + 1 = 15 + 6 * t by omega]
  refine zp_chk fun _ => zp_bind (zp_bind (zp_some ?_))
  rw [zo_n (m := 14 + 6 * t) (by omega), zo_n (m := t) (by omega), zu_other (by decide), fr 90 (by decide), e90]
  refine zp_chk fun _ => zp_chk fun _ => zp_ite (fun q => zp_some (zp_some ⟨fun q hq => by rw [zu_other hq, zu_other hq]; exact fr q hq, fun i hi => ?_⟩)) fun q => zp_bind (zp_some ?_)
  · have h1 : hw0 ρ t = 1 := by
      unfold hw0
      rw [if_pos r6, if_neg]
      rw [e5]
      exact fun z => q z.symm
    rw [zx_up_same]
    by_cases c : i = 14 + 6 * t
    · rw [c, zu_eq, xf_suc (by omega), z14]
    · rw [zu_ne c, zx_up_same]
      by_cases d : i = 15 + 6 * t
      · rw [d, zu_eq, xf_how (by omega), h1]
      · rw [zu_ne d, xf_suc d]; exact f i hi
  · have h4 : hw0 ρ t = 4 := by
      unfold hw0
      rw [if_pos r6, if_pos]
      rw [e5]
      exact (Classical.not_not.mp q).symm
    rw [zo_1 (m := 14 + 6 * t) (by omega), zo_n (m := 14 + 6 * t + 1) (by omega), show 14 + 6 * t + 1 = 15 + 6 * t by omega]
    refine zp_chk fun _ => zp_bind (zp_mono (m_letGo t4) fun s ⟨g1, g2, g3⟩ => zp_some (zp_some ⟨fun q hq => by rw [g1 q hq, zu_other hq, zu_other hq, zu_other hq]; exact fr q hq, fun i hi => ?_⟩))
    have V : ∀ i, i ≠ 14 + 6 * t → i ≠ 15 + 6 * t → (zx_up (zx_up (zx_up ν 107 (15 + 6 * t) 1) 107 (14 + 6 * t) 0) 107 (15 + 6 * t) 4) 107 i = ν 107 i := fun i b1 b2 => by rw [zx_up_same, zu_ne b2, zx_up_same, zu_ne b1, zx_up_same, zu_ne b2]
    have lk : ∀ l, l < 4 → ¬ (zx_up (zx_up (zx_up ν 107 (15 + 6 * t) 1) 107 (14 + 6 * t) 0) 107 (15 + 6 * t) 4) 107 (6 + l) = Int32.ofNat (t + 1) := fun l hl z => by
      rw [V _ (by omega) (by omega), f _ (by omega), xf_no (by omega) (fun u hu => by omega)] at z
      have := zo_inj (k := 0) (j := t + 1) (by omega) (by omega) z
      omega
    by_cases c : i = 14 + 6 * t
    · rw [c, g2 _ (by omega), zx_up_same, zu_ne (by omega), zx_up_same, zu_eq, xf_suc (by omega), z14]
    · by_cases d : i = 15 + 6 * t
      · rw [d, g2 _ (by omega), zx_up_same, zu_eq, xf_how (by omega), h4]
      · rw [xf_suc d]
        by_cases k : i < 6 ∨ 14 ≤ i
        · rw [g2 i k, V i c d]; exact f i hi
        · by_cases k10 : i < 10
          · have := ((g3 (i - 6) (by omega)).2 (lk _ (by omega))).1
            rw [show 6 + (i - 6) = i by omega, V i c d] at this
            rw [this]; exact f i hi
          · have := ((g3 (i - 10) (by omega)).2 (lk _ (by omega))).2
            rw [show 10 + (i - 10) = i by omega, V i c d] at this
            rw [this]; exact f i hi
theorem m_first {N m c0 : Nat} {len : Nat → Nat} {nc : Nat → Nat → Nat} {ρ μ : zS} {w : Nat → Int32} (pc : PC m len nc ρ μ) (fl : FLV ρ μ) (e40 : ρ 4 0 = Int32.ofNat c0) (e15 : μ 82 15 = Int32.ofNat c0) (c6 : c0 ≤ 6) (sta : STA m len ρ) (fw : FSTW ρ w) : zp (zf_M_firstState N μ) (fun s => (∀ q, q ≠ 107 → s q = μ q) ∧ ST m len nc ρ w (s 107)) := by
  have pc' := pc
  obtain ⟨⟨m4, e42, e17⟩, p2, p3, p4, p5⟩ := pc
  have fin : ∀ s : zS, (∀ q, q ≠ 107 → s q = μ q) → (∀ i, i < 40 → s 107 i = xf ρ μ c0 m i) → (∀ q, q ≠ 107 → s q = μ q) ∧ ST m len nc ρ w (s 107) := fun s fr f => by
    have X : ∀ i, i < 40 → s 107 i = xf ρ μ c0 m i := f
    have z : ∀ i, i < 40 → 6 ≤ i → (∀ t, t < m → i ≠ 15 + 6 * t) → s 107 i = 0 := fun i hi h6 h => by rw [X i hi]; exact xf_no h6 h
    have h15 : ∀ t, t < m → s 107 (15 + 6 * t) = hw0 ρ t := fun t ht => by rw [X _ (by omega)]; exact xf_how ht
    have hcase : ∀ t, hw0 ρ t = 0 ∨ hw0 ρ t = 1 ∨ hw0 ρ t = 4 := fun t => by
      unfold hw0
      by_cases c : ρ 6 t = 0
      · rw [if_pos c]
        by_cases d : ρ 5 t = 0
        · rw [if_pos d]; exact Or.inr (Or.inr rfl)
        · rw [if_neg d]; exact Or.inr (Or.inl rfl)
      · rw [if_neg c]; exact Or.inl rfl
    have hn0 : ∀ t l, t < m → l < 4 → HN ρ nc (s 107) t l = 0 := fun t l ht hl => by
      rcases hcase t with h | h | h
      · exact HN.no (by rw [h15 t ht, h]; decide)
      · obtain ⟨l24, e5, _⟩ := p2 t ht
        have pos : 0 < len t := by
          by_cases c : len t = 0
          · have : hw0 ρ t ≠ 1 := by
              unfold hw0
              rw [e5, c]
              by_cases d : ρ 6 t = 0
              · rw [if_pos d, if_pos (show Int32.ofNat 0 = 0 from rfl)]; decide
              · rw [if_neg d]; decide
            exact absurd h this
          · omega
        rw [HN.run (z := 0) (by rw [h15 t ht, h]) (by rw [z _ (by omega) (by omega) (fun u hu => by omega)]; rfl) (by omega), Nat.add_zero]
        exact (p5 t ht).2.1 pos l hl
      · exact HN.no (by rw [h15 t ht, h]; decide)
    refine ⟨fr, ?_, fun t ht => ?_, fun t h1 h2 => ⟨?_, fun i hi => z _ (by omega) (by omega) fun u hu => by omega⟩, fun t ht => ?_, fun t ht => ⟨fun q => ?_, fun _ => z _ (by omega) (by omega) fun u hu => by omega⟩, fun l hl => Or.inl ⟨fun t ht => hn0 t l ht hl, z _ (by omega) (by omega) fun u hu => by omega, z _ (by omega) (by omega) fun u hu => by omega⟩, z 38 (by omega) (by omega) fun u hu => by omega, z 39 (by omega) (by omega) fun u hu => by omega⟩
    ·
      rw [fw.1]
      obtain ⟨v1, v2⟩ := fl
      have hi0 := v2 c0 e40 c6
      have x6 : ∀ f, f < 6 → s 107 f = if f < c0 then μ 89 f else 0 := fun f hf => by
        rw [X f (by omega)]
        unfold xf
        rw [if_pos hf]
      refine ⟨fun f hf => ?_, fun f hf b hb => ?_, fun i hi => hi0 i (by omega)⟩
      · rw [x6 f hf]
        by_cases c : f < c0
        · rw [if_pos c]; exact (v1 f hf (by rw [e40]; exact (zo_lt (by omega) (by omega)).mpr c)).2
        · rw [if_neg c]; decide
      · rw [x6 f hf]
        by_cases c : f < c0
        · rw [if_pos c, ← (v1 f hf (by rw [e40]; exact (zo_lt (by omega) (by omega)).mpr c)).1, gb_and, gb_ushr (by omega), gb7 (by omega), decide_eq_true hb, Bool.and_true]
        · rw [if_neg c, gb_zero]; exact hi0 (3 * f + b) (by omega)
    ·
      rw [fw.2 t (by omega), h15 t ht, z (14 + 6 * t) (by omega) (by omega) fun u hu => by omega]
      have zero : TWB 0 0 0 (fun _ => 0) := ⟨⟨by decide, by decide, fun _ _ => show (0 : Int32) ≤ 0 ∧ (0 : Int32) ≤ 7 by decide⟩, fun _ _ _ _ => by rw [gb_zero, gb_zero], fun _ _ => by rw [gb_zero, gb_zero], fun _ _ => by rw [gb_zero, gb_zero], fun _ _ => gb_zero⟩
      have A : ∀ h : Int32, (h = 0 ∨ h = 1 ∨ h = 4) → TWB (zJ_shl h 14) 0 h (fun _ => 0) := fun h hh => by
        have p := zero.plc (s' := 0) (h' := h) (m := 511) (Or.inl rfl) (by decide) (by rcases hh with k | k | k <;> rw [k] <;> decide)
        have e : (((0 : Int32) &&& 511) ||| (zJ_shl 0 9)) ||| (zJ_shl h 14) = zJ_shl h 14 := by rcases hh with k | k | k <;> rw [k] <;> decide
        rw [e] at p
        exact p
      exact (A _ (hcase t)).of rfl rfl fun i hi => z _ (by omega) (by omega) fun u hu => by omega
    · rw [fw.2 t h2]
      unfold hw0
      rw [sta.2 t h1 h2, p3 t h1 h2, if_pos rfl, if_pos rfl]
      decide
    · rw [h15 t ht, z (14 + 6 * t) (by omega) (by omega) fun u hu => by omega]
      obtain ⟨l24, e5, _⟩ := p2 t ht
      unfold hw0
      by_cases c : ρ 6 t = 0
      · rw [if_pos c]
        by_cases d : ρ 5 t = 0
        · rw [if_pos d]
          exact Or.inr (Or.inr (Or.inr ⟨rfl, by rw [← e5, d]⟩))
        · rw [if_neg d]
          refine Or.inr (Or.inl ⟨Or.inl rfl, 0, ?_, rfl⟩)
          by_cases k : len t = 0
          · rw [e5, k] at d; exact absurd rfl d
          · omega
      · rw [if_neg c]; exact Or.inl ⟨rfl, rfl⟩
    · rw [h15 t ht] at q
      rcases hcase t with h | h | h <;> rw [h] at q <;> exact absurd q (by decide)
  have thr : ∀ (n t : Nat) (ν : zS), t ≤ m → (∀ q, q ≠ 107 → ν q = μ q) → (∀ i, i < 40 → ν 107 i = xf ρ μ c0 t i) → zp (zb_M_firstState_51 N n ν (Int32.ofNat t)) (fun s => (∀ q, q ≠ 107 → s q = μ q) ∧ ST m len nc ρ w (s 107)) := by
    intro n
    induction n with
    | zero => intro _ _ _ _ _; exact zp_none
    | succ n ih =>
      intro t ν tm fr f
      rw [zb_M_firstState_51, fr 82 (by decide), e17]
      refine zp_ite (fun q => zp_some ?_) fun q => ?_
      · have e : t = m := by
          have := (zo_le (k := m) (j := t) (by omega) (by omega)).mp q
          omega
        subst e
        exact fin ν fr f
      · have lt : t < m := by
          by_cases c : t < m
          · exact c
          · exact absurd ((zo_le (k := m) (j := t) (by omega) (by omega)).mpr (by omega)) q
        have scan : ∀ (n' k : Nat) (v2 : Int32), k ≤ 24 * m → (v2 = 0 → ∀ u s, u < m → s < len u → 24 * u + s < k → ρ 7 (24 * u + s) = 10 → ¬ ρ 8 (24 * u + s) = Int32.ofNat t) → (¬ v2 = 0 → ∃ u s, u < m ∧ s < len u ∧ ρ 7 (24 * u + s) = 10 ∧ ρ 8 (24 * u + s) = Int32.ofNat t) → zp (zb_M_firstState_63 (zb_M_firstState_51 N n) N n' ν (Int32.ofNat t) v2 (Int32.ofNat k)) (fun s => (∀ q, q ≠ 107 → s q = μ q) ∧ ST m len nc ρ w (s 107)) := by
          intro n'
          induction n' with
          | zero => intro _ _ _ _ _; exact zp_none
          | succ n' ih' =>
            intro k v2 k24 h0 h1
            rw [zb_M_firstState_63, fr 82 (by decide), e17, zo_24 m4]
            unfold zb_M_firstState_136 zb_M_firstState_115 zb_M_firstState_119 zb_M_firstState_120
            rw [zo_1 (m := t) (by omega), zo_1 (m := k) (by omega)]
            refine zp_ite (fun q => zp_ite (fun nz => ?_) fun z => ?_) fun q => ?_
            · refine ih (t + 1) ν (by omega) fr fun i hi => ?_
              rw [f i hi]
              by_cases c : i = 15 + 6 * t
              · have h00 : hw0 ρ t = 0 := by
                  unfold hw0
                  rw [if_neg]
                  intro z6
                  obtain ⟨u, s, hu, hs, k7, k8⟩ := h1 nz
                  exact (sta.1 t lt).mp z6 u s hu hs k7 k8
                rw [c, xf_how (T := t + 1) (t := t) (by omega), h00]
                exact xf_no (by omega) fun u hu => by omega
              · exact (xf_suc c).symm
            · have k24' := (zo_le (k := 24 * m) (j := k) (by omega) (by omega)).mp q
              have r6 : ρ 6 t = 0 := (sta.1 t lt).mpr fun u s hu hs => h0 (Classical.not_not.mp z) u s hu hs (by have := (p2 u hu).1; omega)
              exact zp_bind (zp_mono (m_begin0 pc' lt r6 fr f) fun s hs => ih (t + 1) s (by omega) hs.1 hs.2)
            · have lk : k < 24 * m := by
                by_cases c : k < 24 * m
                · exact c
                · exact absurd ((zo_le (k := 24 * m) (j := k) (by omega) (by omega)).mpr (by omega)) q
              have dm := z_dm96 ⟨k, by omega⟩
              dsimp only at dm
              have u4 : k / 24 < m := by omega
              obtain ⟨l24, _, e90⟩ := p2 (k / 24) u4
              rw [dm.1, dm.2, zo_n (m := k / 24) (by omega), zo_n (m := k) (by omega), fr 90 (by decide), fr 92 (by decide), fr 93 (by decide), e90]
              have kk : 24 * (k / 24) + k % 24 = k := by omega
              have no : v2 = 0 → (k % 24 < len (k / 24) → ρ 7 k = 10 → ¬ ρ 8 k = Int32.ofNat t) → zp (zb_M_firstState_63 (zb_M_firstState_51 N n) N n' ν (Int32.ofNat t) 0 (Int32.ofNat (k + 1))) (fun s => (∀ q, q ≠ 107 → s q = μ q) ∧ ST m len nc ρ w (s 107)) := fun z hno => ih' (k + 1) 0 (by omega) (fun _ u s hu hs lt' k7 k8 => by
                by_cases c : 24 * u + s = k
                · have lu := (p2 u hu).1
                  rw [c] at k7 k8
                  exact hno (by rw [show k / 24 = u by omega]; omega) k7 k8
                · exact h0 z u s hu hs (by omega) k7 k8) fun nz => absurd rfl nz
              refine zp_ite (fun nz => ih' (k + 1) 1 (by omega) (fun z => absurd z (by decide)) fun _ => h1 nz) fun z => zp_chk fun _ => ?_
              have z := Classical.not_not.mp z
              refine zp_ite (fun le => no z fun l => ?_) fun nle => zp_chk fun _ => ?_
              · have := (zo_le (k := len (k / 24)) (j := k % 24) (by omega) (by omega)).mp le
                omega
              · have ls : k % 24 < len (k / 24) := by
                  by_cases c : k % 24 < len (k / 24)
                  · exact c
                  · exact absurd ((zo_le (k := len (k / 24)) (j := k % 24) (by omega) (by omega)).mpr (by omega)) nle
                have pr := p4 (k / 24) (k % 24) u4 ls
                rw [kk] at pr
                obtain ⟨k92, _, _, _, nm, _, _⟩ := pr
                refine zp_ite (fun n10 => no z fun _ k7 => absurd (k92.symm.trans k7) n10) fun y10 => zp_chk fun _ => ?_
                have k10 := Classical.not_not.mp y10
                obtain ⟨l, hl, e8, e93, _⟩ := nm (by rw [k10]; decide)
                refine zp_ite (fun n93 => no z fun _ _ k8 => n93 ?_) fun y93 => ih' (k + 1) 1 (by omega) (fun z => absurd z (by decide)) fun _ => ⟨k / 24, k % 24, u4, ls, by rw [kk, k92]; exact k10, ?_⟩
                · rw [e93, ← e8]; exact k8
                · rw [kk, e8, ← e93]; exact Classical.not_not.mp y93
        exact scan N 0 0 (by omega) (fun _ u s hu hs lt' => absurd lt' (Nat.not_lt_zero _)) fun nz => absurd rfl nz
  have fld : ∀ (n i : Nat) (ν : zS), i ≤ c0 → (∀ q, q ≠ 107 → ν q = μ q) → (∀ j, j < 40 → ν 107 j = if j < i then μ 89 j else 0) → zp (zb_M_firstState_23 N n ν (Int32.ofNat i)) (fun s => (∀ q, q ≠ 107 → s q = μ q) ∧ ST m len nc ρ w (s 107)) := by
    intro n
    induction n with
    | zero => intro _ _ _ _ _; exact zp_none
    | succ n ih =>
      intro i ν hi fr f
      rw [zb_M_firstState_23, fr 82 (by decide), e15]
      refine zp_ite (fun q => ?_) fun q => zp_chk fun _ => zp_chk fun _ => ?_
      · have e : i = c0 := by
          have := (zo_le (k := c0) (j := i) (by omega) (by omega)).mp q
          omega
        subst e
        refine thr N 0 ν (by omega) fr fun j hj => ?_
        rw [f j hj]
        unfold xf
        by_cases c : j < 6
        · rw [if_pos c]
        · rw [if_neg c, if_neg (by omega), if_neg (by omega)]
      · have lt : i < c0 := by
          by_cases c : i < c0
          · exact c
          · exact absurd ((zo_le (k := c0) (j := i) (by omega) (by omega)).mpr (by omega)) q
        rw [zo_n (m := i) (by omega), zo_1 (by omega), fr 89 (by decide)]
        refine ih (i + 1) _ (by omega) (fun q hq => by rw [zu_other hq]; exact fr q hq) fun j hj => ?_
        rw [zx_up_same]
        by_cases c : j = i
        · rw [c, zu_eq, if_pos (by omega)]
        · rw [zu_ne c, f j hj]
          by_cases d : j < i
          · rw [if_pos d, if_pos (by omega)]
          · rw [if_neg d, if_neg (by omega)]
  have clr : ∀ (n i : Nat) (ν : zS), i ≤ 40 → (∀ q, q ≠ 107 → ν q = μ q) → (∀ j, j < i → ν 107 j = 0) → zp (zb_M_firstState_2 N n ν (Int32.ofNat i)) (fun s => (∀ q, q ≠ 107 → s q = μ q) ∧ ST m len nc ρ w (s 107)) := by
    intro n
    induction n with
    | zero => intro _ _ _ _ _; exact zp_none
    | succ n ih =>
      intro i ν hi fr f
      rw [zb_M_firstState_2]
      refine zp_ite (fun q => fld N 0 ν (by omega) fr fun j hj => ?_) fun q => zp_chk fun _ => ?_
      · have := (zo_le (k := 40) (j := i) (by omega) (by omega)).mp q
        rw [if_neg (by omega)]
        exact f j (by omega)
      · have lt : i < 40 := by
          by_cases c : i < 40
          · exact c
          · exact absurd ((zo_le (k := 40) (j := i) (by omega) (by omega)).mpr (by omega)) q
        rw [zo_n (m := i) (by omega), zo_1 (by omega)]
        refine ih (i + 1) _ (by omega) (fun q hq => by rw [zu_other hq]; exact fr q hq) fun j hj => ?_
        rw [zx_up_same]
        by_cases c : j = i
        · rw [c, zu_eq]
        · rw [zu_ne c]; exact f j (by omega)
  unfold zf_M_firstState
  exact clr N 0 μ (by omega) (fun _ _ => rfl) fun j hj => absurd hj (Nat.not_lt_zero _)
