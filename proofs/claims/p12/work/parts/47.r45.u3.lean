-- both answer alike
set_option maxRecDepth 2000
theorem c_slotOf {σ : zS} {t : Nat} (t4 : t < 4) : zp (zf_Machine_slotOf σ (Int32.ofNat t)) (fun r => r = σ 37 t) := by
  unfold zf_Machine_slotOf
  refine zp_ite (fun q => ?_) fun _ => zp_ite (fun q => ?_) fun _ => zp_chk fun _ => zp_some (by rw [zo_n (by omega)])
  · have := (zo_lt (k := t) (j := 0) (by omega) (by omega)).mp q
    omega
  · have := (zo_le (k := 4) (j := t) (by omega) (by omega)).mp q
    omega
theorem c_howOf {σ : zS} {t : Nat} (t4 : t < 4) : zp (zf_Machine_howOf σ (Int32.ofNat t)) (fun r => r = σ 36 t) := by
  unfold zf_Machine_howOf
  refine zp_ite (fun q => ?_) fun _ => zp_ite (fun q => ?_) fun _ => zp_chk fun _ => zp_some (by rw [zo_n (by omega)])
  · have := (zo_lt (k := t) (j := 0) (by omega) (by omega)).mp q
    omega
  · have := (zo_le (k := 4) (j := t) (by omega) (by omega)).mp q
    omega
theorem c_ownerOf {σ : zS} {t : Nat} (t4 : t < 4) : zp (zf_Machine_ownerOf σ (Int32.ofNat t)) (fun r => r = σ 38 t) := by
  unfold zf_Machine_ownerOf
  refine zp_ite (fun q => ?_) fun _ => zp_ite (fun q => ?_) fun _ => zp_chk fun _ => zp_some (by rw [zo_n (by omega)])
  · have := (zo_lt (k := t) (j := 0) (by omega) (by omega)).mp q
    omega
  · have := (zo_le (k := 4) (j := t) (by omega) (by omega)).mp q
    omega
theorem c_wordOf {σ : zS} {t : Nat} (t4 : t < 4) : zp (zf_Machine_wordOf σ (Int32.ofNat t)) (fun r => r = σ 39 (t + 1)) := by
  unfold zf_Machine_wordOf
  refine zp_ite (fun q => ?_) fun _ => zp_ite (fun q => ?_) fun _ => zp_chk fun _ => zp_some (by rw [zo_1 (by omega), zo_n (by omega)])
  · have := (zo_lt (k := t) (j := 0) (by omega) (by omega)).mp q
    omega
  · have := (zo_le (k := 4) (j := t) (by omega) (by omega)).mp q
    omega
theorem HN.no {ρ : zS} {nc : Nat → Nat → Nat} {x : Nat → Int32} {t l : Nat} (h : ¬ x (15 + 6 * t) = 1 ∧ ¬ (x (15 + 6 * t) = 2 ∨ x (15 + 6 * t) = 3)) : HN ρ nc x t l = 0 := by
  unfold HN
  rw [if_neg h.1, if_neg h.2]
theorem HN.run {ρ : zS} {nc : Nat → Nat → Nat} {x : Nat → Int32} {t l z : Nat} (h : x (15 + 6 * t) = 1) (e : x (14 + 6 * t) = Int32.ofNat z) (hz : z ≤ 100000) : HN ρ nc x t l = nc (24 * t + z) l := by
  unfold HN
  rw [if_pos h, e, zo_n hz]
theorem HN.wait {ρ : zS} {nc : Nat → Nat → Nat} {x : Nat → Int32} {t l z : Nat} (h : x (15 + 6 * t) = 2 ∨ x (15 + 6 * t) = 3) (e : x (14 + 6 * t) = Int32.ofNat z) (hz : z ≤ 100000) : HN ρ nc x t l = if ρ 8 (24 * t + z) = Int32.ofNat l then 0 else nc (24 * t + z) l := by
  unfold HN
  rw [if_neg (by rcases h with h | h <;> rw [h] <;> decide), if_pos h, e, zo_n hz]
theorem c_locksOf {S ρ : zS} {nc : Nat → Nat → Nat} {x : Nat → Int32} {t len : Nat} (t4 : t < 4) (e8 : S 8 = ρ 8) (e11 : S 11 = ρ 11) (h36 : S 36 t = x (15 + 6 * t)) (h37 : ∀ z, z < len → x (14 + 6 * t) = Int32.ofNat z → S 37 t = Int32.ofNat (24 * t + z)) (v : VLD len ρ nc t (x (14 + 6 * t)) (x (15 + 6 * t))) (l24 : len ≤ 24) (nr : NSR t len ρ nc) : zp (zf_Machine_locksOf S (Int32.ofNat t)) (fun r => ∀ l, l < 4 → (bit r l ↔ 0 < HN ρ nc x t l)) := by
  have no : (¬ x (15 + 6 * t) = 1 ∧ ¬ (x (15 + 6 * t) = 2 ∨ x (15 + 6 * t) = 3)) → zp (zf_Machine_locksOf S (Int32.ofNat t)) (fun r => ∀ l, l < 4 → (bit r l ↔ 0 < HN ρ nc x t l)) := fun h => by
    unfold zf_Machine_locksOf
    refine zp_bind (zp_mono (c_slotOf t4) fun r1 e1 => zp_bind (zp_mono (c_howOf t4) fun r2 e2 => ?_))
    rw [h36] at e2
    subst e2
    refine zp_ite (fun q => absurd q h.1) fun _ => zp_ite (fun q => absurd (Or.inl q) h.2) fun _ => zp_ite (fun q => absurd (Or.inr q) h.2) fun _ => zp_some fun l hl => ?_
    rw [HN.no h]
    exact ⟨fun q => absurd q (bit_zero (by omega)), fun q => absurd q (Nat.lt_irrefl _)⟩
  rcases v with v | ⟨v, z, zS, es⟩ | ⟨v, z, l', zS, es, _, l4, e8', _⟩ | v
  · exact no (by rw [v.1]; decide)
  · rcases v with v | v
    · unfold zf_Machine_locksOf
      refine zp_bind (zp_mono (c_slotOf t4) fun r1 e1 => zp_bind (zp_mono (c_howOf t4) fun r2 e2 => ?_))
      rw [h36, v] at e2
      rw [h37 z zS es] at e1
      subst e1 e2
      refine zp_ite (fun _ => zp_chk fun _ => zp_some fun l hl => ?_) fun q => absurd rfl q
      rw [zo_n (by omega), HN.run v es (by omega), e11]
      exact (nr.1 z zS l hl).1
    · exact no (by rw [v]; decide)
  · have A : ∀ l, l < 4 → (bit ((S 11 (Int32.ofNat (24 * t + z)).toNatClampNeg) &&& ((zJ_shl 1 (S 8 (Int32.ofNat (24 * t + z)).toNatClampNeg)) ^^^ (-1))) l ↔ 0 < HN ρ nc x t l) := fun l hl => by
      rw [zo_n (by omega), HN.wait v es (by omega), e11, e8, e8', bit_and (by omega), bit_not (by omega), bit_shl (by omega) (by omega), (nr.1 z zS l hl).1]
      by_cases c : l = l'
      · rw [c, if_pos rfl]
        exact ⟨fun q => absurd rfl q.2, fun q => absurd q (Nat.lt_irrefl _)⟩
      · rw [if_neg fun q => c (zo_inj (by omega) (by omega) q.symm)]
        exact ⟨fun q => q.1, fun q => ⟨q, c⟩⟩
    unfold zf_Machine_locksOf
    refine zp_bind (zp_mono (c_slotOf t4) fun r1 e1 => zp_bind (zp_mono (c_howOf t4) fun r2 e2 => ?_))
    rw [h36] at e2
    rw [h37 z zS es] at e1
    subst e1 e2
    refine zp_ite (fun q => ?_) fun _ => zp_ite (fun _ => zp_chk fun _ => zp_chk fun _ => zp_some A) fun q2 => zp_ite (fun _ => zp_chk fun _ => zp_chk fun _ => zp_some A) fun q3 => absurd v fun w => w.elim q2 q3
    rcases v with v | v <;> rw [v] at q <;> exact absurd q (by decide)
  · exact no (by rw [v.1]; decide)
theorem c_own {N t : Nat} {k34 : zS → Int32 → Option zS} {v5 : Int32} {ν : zS} {Q : zS → Prop} (kk : ∀ ν', (∀ q, q ≠ 38 → ν' q = ν q) → (∀ l, l < 4 → (bit v5 l → ν' 38 l = Int32.ofNat t) ∧ (¬ bit v5 l → ν' 38 l = ν 38 l)) → zp (k34 ν' (Int32.ofNat t + 1)) Q) : ∀ (n l : Nat) (ν1 : zS), l ≤ 4 → (∀ q, q ≠ 38 → ν1 q = ν q) → (∀ j, j < 4 → (j < l → (bit v5 j → ν1 38 j = Int32.ofNat t) ∧ (¬ bit v5 j → ν1 38 j = ν 38 j)) ∧ (l ≤ j → ν1 38 j = ν 38 j)) → zp (zb_Machine_load_95 k34 N n ν1 (Int32.ofNat t) v5 (Int32.ofNat l)) Q := by
  intro n
  induction n with
  | zero => intro _ _ _ _ _; exact zp_none
  | succ n ih =>
    intro l ν1 l4 fr f
    rw [zb_Machine_load_95]
    unfold zb_Machine_load_130 zb_Machine_load_124
    have A : (4 ≤ l ∨ v5 = 0) → zp (k34 ν1 (Int32.ofNat t + 1)) Q := fun h => kk ν1 fr fun j hj => by
      by_cases c : j < l
      · exact (f j hj).1 c
      · have z : v5 = 0 := h.resolve_left (by omega)
        rw [z]
        exact ⟨fun b => absurd b (bit_zero (by omega)), fun _ => (f j hj).2 (by omega)⟩
    refine zp_ite (fun q => A (Or.inl ((zo_le (k := 4) (j := l) (by omega) (by omega)).mp q))) fun q => zp_ite (fun z => A (Or.inr z)) fun _ => ?_
    have lt : l < 4 := by
      by_cases c : l < 4
      · exact c
      · exact absurd ((zo_le (k := 4) (j := l) (by omega) (by omega)).mpr (by omega)) q
    rw [zo_1 (by omega), zo_n (by omega)]
    refine zp_ite (fun b => ih (l + 1) ν1 (by omega) fr fun j hj => ⟨fun c => ?_, fun c => (f j hj).2 (by omega)⟩) fun b => zp_chk fun _ => ih (l + 1) _ (by omega) (fun q hq => by rw [zu_other hq]; exact fr q hq) fun j hj => ⟨fun c => ?_, fun c => by rw [zx_up_same, zu_ne (by omega)]; exact (f j hj).2 (by omega)⟩
    · by_cases d : j = l
      · rw [d]
        exact ⟨fun q => absurd b q, fun _ => (f l lt).2 (Nat.le_refl _)⟩
      · exact (f j hj).1 (by omega)
    · rw [zx_up_same]
      by_cases d : j = l
      · rw [d, zu_eq]
        exact ⟨fun _ => rfl, fun q => absurd b q⟩
      · rw [zu_ne d]
        exact (f j hj).1 (by omega)
theorem c_fill38 {N : Nat} {σ : zS} : zp (zf_Arrays_fill_c4 N σ (-1)) (fun r => (∀ q, q ≠ 38 → r q = σ q) ∧ ∀ l, l < 4 → r 38 l = -1) := by
  have go : ∀ (n i : Nat) (ν : zS), i ≤ 4 → (∀ q, q ≠ 38 → ν q = σ q) → (∀ l, l < i → ν 38 l = -1) → zp (zb_Arrays_fill_c4_5 N n ν (-1) (Int32.ofNat i) 4) (fun r => (∀ q, q ≠ 38 → r q = σ q) ∧ ∀ l, l < 4 → r 38 l = -1) := by
    intro n
    induction n with
    | zero => intro _ _ _ _ _; exact zp_none
    | succ n ih =>
      intro i ν hi fr f
      rw [zb_Arrays_fill_c4_5]
      refine zp_ite (fun q => zp_some ⟨fr, fun l hl => f l ?_⟩) fun q => zp_chk fun _ => ?_
      · have := (zo_le (k := 4) (j := i) (by omega) (by omega)).mp q
        omega
      · rw [zo_n (by omega), zo_1 (by omega)]
        have lt : i < 4 := by
          by_cases c : i < 4
          · exact c
          · exact absurd ((zo_le (k := 4) (j := i) (by omega) (by omega)).mpr (by omega)) q
        refine ih (i + 1) _ (by omega) (fun q hq => by rw [zu_other hq]; exact fr q hq) fun l hl => ?_
        rw [zx_up_same]
        by_cases c : l = i
        · rw [c, zu_eq]
        · rw [zu_ne c]; exact f l (by omega)
  unfold zf_Arrays_fill_c4
  exact go N 0 σ (by omega) (fun _ _ => rfl) fun l hl => absurd hl (Nat.not_lt_zero _)
def LDD (m : Nat) (ρ : zS) (w x : Nat → Int32) (σ : zS) : Prop := (∀ q, 4 ≤ q → q ≤ 16 → σ q = ρ q) ∧ SAME5 (σ 39) w ∧ (∀ t, t < m → σ 36 t = x (15 + 6 * t) ∧ ∀ z, z < 24 → x (14 + 6 * t) = Int32.ofNat z → Int32.ofNat z < ρ 5 t → σ 37 t = Int32.ofNat (24 * t + z)) ∧ (∀ l, l < 4 → (σ 38 l = -1 ∧ x (6 + l) = 0) ∨ ∃ t, t < m ∧ σ 38 l = Int32.ofNat t ∧ x (6 + l) = Int32.ofNat (t + 1))
theorem c_load {N n s m : Nat} {len : Nat → Nat} {nc : Nat → Nat → Nat} {ρ μ σ : zS} {x : Nat → Int32} (pc : PC m len nc ρ μ) (h6 : σ 41 6 = Int32.ofNat n) (hn : n ≤ 4000) (hs : s < n) (e : ∀ q, 4 ≤ q → q ≤ 16 → σ q = ρ q) (st : ST m len nc ρ (row5 σ s) x) : zp (zf_Space_load N σ (Int32.ofNat s)) (fun r => LDD m ρ (row5 σ s) x r ∧ (∀ q, q ≠ 36 → q ≠ 37 → q ≠ 38 → q ≠ 39 → r q = σ q)) := by
  obtain ⟨⟨m4, _, _⟩, p2, p3, _, p5⟩ := pc
  obtain ⟨a1, a2, a3, a4, a5, a6, a7⟩ := st
  unfold zf_Space_load
  refine zp_bind (zp_mono (c_has h6 hn hs) fun r1 h1 => zp_ite (fun z => absurd (h1.symm.trans z) (by decide)) fun _ => zp_bind ?_)
  have m5 : Int32.ofNat s * 5 = Int32.ofNat (5 * s) := by
    show Int32.ofNat s * Int32.ofNat 5 = _
    rw [← Int32.ofNat_mul, Nat.mul_comm]
  rw [m5]
  unfold zf_Machine_load
  have p5' : Int32.ofNat (5 * s) + 5 = Int32.ofNat (5 * s + 5) := zo_plus (i := 5 * s) (j := 5) rfl (by omega)
  rw [p5']
  refine zp_ite (fun q => ?_) fun _ => zp_ite (fun _ => zp_chk fun _ => ?_) fun q => absurd ((zo_le (k := 5 * s + 5) (j := 20000) (by omega) (by omega)).mpr (by omega)) q
  · have := (zo_lt (k := 5 * s) (j := 0) (by omega) (by omega)).mp q
    omega
  have c39 : ∀ i, i < 5 → (zJ_copy σ 42 39 (Int32.ofNat (5 * s)) 0 5) 39 i = row5 σ s i := fun i hi => by
    unfold zJ_copy va_cpy row5
    rw [if_pos rfl, zo_n (m := 5 * s) (by omega), show (5 : Int32).toNatClampNeg = 5 from rfl, show (0 : Int32).toNatClampNeg = 0 from rfl, if_pos (by omega), Nat.sub_zero]
  have cq : ∀ q, q ≠ 39 → (zJ_copy σ 42 39 (Int32.ofNat (5 * s)) 0 5) q = σ q := fun q hq => zJ_copy_ne hq
  generalize (zJ_copy σ 42 39 (Int32.ofNat (5 * s)) 0 5) = C at *
  refine zp_bind (zp_mono c_fill38 fun r4 h4 => ?_)
  have go : ∀ (n t : Nat) (ν : zS), t ≤ 4 → (∀ q, q ≠ 36 → q ≠ 37 → q ≠ 38 → ν q = C q) → (∀ t', t' < t → t' < m → ν 36 t' = x (15 + 6 * t') ∧ ∀ z, z < 24 → x (14 + 6 * t') = Int32.ofNat z → Int32.ofNat z < ρ 5 t' → ν 37 t' = Int32.ofNat (24 * t' + z)) → (∀ l, l < 4 → (ν 38 l = -1 ∧ ∀ t', t' < t → t' < m → HN ρ nc x t' l = 0) ∨ ∃ t', t' < t ∧ t' < m ∧ 0 < HN ρ nc x t' l ∧ ν 38 l = Int32.ofNat t') → zp (zb_Machine_load_34 N n ν (Int32.ofNat t)) (fun r => zp (some r) fun r => LDD m ρ (row5 σ s) x r ∧ (∀ q, q ≠ 36 → q ≠ 37 → q ≠ 38 → q ≠ 39 → r q = σ q)) := by
    intro n
    induction n with
    | zero => intro _ _ _ _ _ _; exact zp_none
    | succ n ih =>
      intro t ν t4 fr th ow
      rw [zb_Machine_load_34]
      refine zp_ite (fun q => zp_some (zp_some ⟨⟨fun q a b => ?_, fun i hi => ?_, fun t' ht' => ?_, fun l hl => ?_⟩, fun q a b c d => ?_⟩)) fun q => ?_
      · rw [fr q (by omega) (by omega) (by omega), cq q (by omega)]; exact e q a b
      · rw [fr 39 (by decide) (by decide) (by decide)]; exact c39 i hi
      · have := (zo_le (k := 4) (j := t) (by omega) (by omega)).mp q
        exact th t' (by omega) ht'
      · have t4' := (zo_le (k := 4) (j := t) (by omega) (by omega)).mp q
        rcases ow l hl with ⟨o1, o2⟩ | ⟨u, u1, u2, u3, u4⟩
        · rcases a6 l hl with ⟨_, b2, _⟩ | ⟨u, hu, b1, _⟩
          · exact Or.inl ⟨o1, b2⟩
          · have := o2 u (by omega) hu
            omega
        · rcases a6 l hl with ⟨b1, _⟩ | ⟨u', hu', b1, b2, b3, _⟩
          · have := b1 u u2
            omega
          · have uu : u = u' := by
              by_cases c : u = u'
              · exact c
              · have := b2 u u2 c
                omega
            rw [← uu] at b3
            exact Or.inr ⟨u, u2, u4, b3⟩
      · rw [fr q a b c, cq q d]
      · have lt : t < 4 := by
          by_cases c : t < 4
          · exact c
          · exact absurd ((zo_le (k := 4) (j := t) (by omega) (by omega)).mpr (by omega)) q
        have e39 : ν 39 (t + 1) = row5 σ s (t + 1) := by rw [fr 39 (by decide) (by decide) (by decide)]; exact c39 (t + 1) (by omega)
        rw [zo_1 (by omega), zo_n (m := t) (by omega), zo_n (m := t + 1) (by omega), e39]
        have pr : ∀ q, 4 ≤ q → q ≤ 16 → ν q = ρ q := fun q a b => by rw [fr q (by omega) (by omega) (by omega), cq q (by omega)]; exact e q a b
        refine zp_chk fun _ => zp_chk fun _ => zp_bind fun r8 e8' => zp_chk fun _ => zp_bind ?_
        have fin : ∀ had : Int32, (t < m → (zJ_ushr (row5 σ s (t + 1)) 14) &&& 7 = x (15 + 6 * t) ∧ (∀ z, z < 24 → x (14 + 6 * t) = Int32.ofNat z → Int32.ofNat z < ρ 5 t → r8 = Int32.ofNat (24 * t + z)) ∧ ∀ l, l < 4 → (bit had l ↔ 0 < HN ρ nc x t l)) → (¬ t < m → had = 0) → zp (zb_Machine_load_95 (zb_Machine_load_34 N n) N N (zx_up (zx_up ν 36 t ((zJ_ushr (row5 σ s (t + 1)) 14) &&& 7)) 37 t r8) (Int32.ofNat t) had 0) (fun r => zp (some r) fun r => LDD m ρ (row5 σ s) x r ∧ (∀ q, q ≠ 36 → q ≠ 37 → q ≠ 38 → q ≠ 39 → r q = σ q)) := by
          intro had hm hz
          refine c_own (ν := zx_up (zx_up ν 36 t ((zJ_ushr (row5 σ s (t + 1)) 14) &&& 7)) 37 t r8) (fun ν' f1 f2 => ?_) N 0 _ (by omega) (fun _ _ => rfl) fun j hj => ⟨fun c => absurd c (Nat.not_lt_zero _), fun _ => rfl⟩
          rw [zo_1 (by omega)]
          refine ih (t + 1) ν' (by omega) (fun q a b c => ?_) (fun t' ht' hm' => ?_) fun l hl => ?_
          · rw [f1 q c, zu_other b, zu_other a]; exact fr q a b c
          · rw [f1 36 (by decide), f1 37 (by decide), zu_other (by decide), zx_up_same, zx_up_same, zu_other (by decide)]
            by_cases c : t' = t
            · subst c
              obtain ⟨g1, g2, _⟩ := hm hm'
              rw [zu_eq]
              refine ⟨g1, fun z z1 z2 z3 => ?_⟩
              rw [zu_eq]
              exact g2 z z1 z2 z3
            · obtain ⟨g1, g2⟩ := th t' (by omega) hm'
              rw [zu_ne c]
              refine ⟨g1, fun z z1 z2 z3 => ?_⟩
              rw [zu_ne c]
              exact g2 z z1 z2 z3
          · obtain ⟨g1, g2⟩ := f2 l hl
            have o38 : (zx_up (zx_up ν 36 t ((zJ_ushr (row5 σ s (t + 1)) 14) &&& 7)) 37 t r8) 38 l = ν 38 l := by rw [zu_other (by decide), zu_other (by decide)]
            rw [o38] at g2
            by_cases b : bit had l
            · by_cases c : t < m
              · exact Or.inr ⟨t, by omega, c, ((hm c).2.2 l hl).mp b, g1 b⟩
              · rw [hz c] at b
                exact absurd b (bit_zero (by omega))
            · rw [g2 b]
              rcases ow l hl with ⟨o1, o2⟩ | ⟨u, u1, u2, u3, u4⟩
              · refine Or.inl ⟨o1, fun t' ht' hm' => ?_⟩
                by_cases c : t' = t
                · subst c
                  have := (not_congr ((hm hm').2.2 l hl)).mp b
                  omega
                · exact o2 t' (by omega) hm'
              · exact Or.inr ⟨u, by omega, u2, u3, u4⟩
        by_cases c : t < m
        · have tw := a2 t c
          have sl : ∀ z, z < 24 → x (14 + 6 * t) = Int32.ofNat z → Int32.ofNat z < ρ 5 t → r8 = Int32.ofNat (24 * t + z) := fun z z1 z2 z3 => by
            rw [tw.stp, z2] at e8'
            rcases p_X_slotOf2 (by omega) z1 r8 e8' with ⟨_, h⟩ | ⟨h, _⟩
            · exact h
            · rw [zu_other (by decide), pr 5 (by decide) (by decide)] at h
              exact absurd z3 h
          obtain ⟨l24, e5, _⟩ := p2 t c
          refine zp_mono (c_locksOf (S := zx_up (zx_up ν 36 t ((zJ_ushr (row5 σ s (t + 1)) 14) &&& 7)) 37 t r8) (ρ := ρ) (x := x) (len := len t) lt ?_ ?_ ?_ (fun z zl ez => ?_) (a4 t c) l24 (p5 t c)) fun had hb => fin had (fun _ => ⟨tw.how, sl, hb⟩) fun n => absurd c n
          · rw [zu_other (by decide), zu_other (by decide)]; exact pr 8 (by decide) (by decide)
          · rw [zu_other (by decide), zu_other (by decide)]; exact pr 11 (by decide) (by decide)
          · rw [zu_other (by decide), zx_up_same, zu_eq]; exact tw.how
          · rw [zx_up_same, zu_eq]
            exact sl z (by omega) ez (by rw [e5]; exact (zo_lt (by omega) (by omega)).mpr zl)
        · have w4 := (a3 t (by omega) lt).1
          have z4 : zp (zf_Machine_locksOf (zx_up (zx_up ν 36 t ((zJ_ushr (row5 σ s (t + 1)) 14) &&& 7)) 37 t r8) (Int32.ofNat t)) (fun r => r = 0) := by
            unfold zf_Machine_locksOf
            refine zp_bind (zp_mono (c_slotOf lt) fun r1 e1 => zp_bind (zp_mono (c_howOf lt) fun r2 e2 => ?_))
            rw [zu_other (by decide), zx_up_same, zu_eq, w4, show ((zJ_ushr (65536 : Int32) 14) &&& 7) = 4 by decide] at e2
            subst e2
            exact zp_ite (fun q => absurd q (by decide)) fun _ => zp_ite (fun q => absurd q (by decide)) fun _ => zp_ite (fun q => absurd q (by decide)) fun _ => zp_some rfl
          exact zp_mono z4 fun had e0 => fin had (fun q => absurd q c) fun _ => e0
  refine go N 0 r4 (by omega) (fun q a b c => h4.1 q c) (fun t' ht' => absurd ht' (Nat.not_lt_zero _)) fun l hl => Or.inl ⟨h4.2 l hl, fun t' ht' => absurd ht' (Nat.not_lt_zero _)⟩
theorem zo_at {t : Nat} (t4 : t < 4) : 14 + 6 * Int32.ofNat t = Int32.ofNat (14 + 6 * t) := by
  show Int32.ofNat 14 + Int32.ofNat 6 * Int32.ofNat t = _
  rw [← Int32.ofNat_mul, ← Int32.ofNat_add]
theorem m_stateOf {μ : zS} {t : Nat} (t4 : t < 4) : zp (zf_M_stateOf μ (Int32.ofNat t)) (fun r => r = μ 107 (15 + 6 * t)) := by
  unfold zf_M_stateOf zf_M_at
  rw [zo_at t4]
  refine zp_bind (zp_some (zp_chk fun _ => zp_some ?_))
  rw [zo_1 (by omega), zo_n (by omega), show 14 + 6 * t + 1 = 15 + 6 * t by omega]
def CANX (ρ : zS) (x : Nat → Int32) (t : Nat) : Prop := (x (15 + 6 * t) = 1 ∧ ∀ z l, z < 24 → x (14 + 6 * t) = Int32.ofNat z → ρ 7 (24 * t + z) = 3 → l < 4 → ρ 8 (24 * t + z) = Int32.ofNat l → x (6 + l) = 0 ∨ x (6 + l) = Int32.ofNat (t + 1)) ∨ (x (15 + 6 * t) = 3 ∧ ∀ z l, z < 24 → x (14 + 6 * t) = Int32.ofNat z → l < 4 → ρ 8 (24 * t + z) = Int32.ofNat l → x (6 + l) = 0)
theorem p_can {m t : Nat} {len : Nat → Nat} {nc : Nat → Nat → Nat} {ρ μ σ : zS} {w x : Nat → Int32} (pc : PC m len nc ρ μ) (st : ST m len nc ρ w x) (ld : LDD m ρ w x σ) (ex : ∀ i, i < 40 → μ 107 i = x i) (ht : t < m) : zp (zf_Machine_canMove σ (Int32.ofNat t)) (fun a => zp (zf_M_canStep μ (Int32.ofNat t)) (fun b => a = b ∧ (a = 0 ∨ a = 1) ∧ (a = 1 → CANX ρ x t))) := by
  obtain ⟨⟨m4, _, _⟩, p2, p3, p4, p5⟩ := pc
  obtain ⟨_, _, _, a4, _, _, _⟩ := st
  obtain ⟨l1, l2, l3, l4⟩ := ld
  have t4 : t < 4 := by omega
  obtain ⟨len24, e5, _⟩ := p2 t ht
  obtain ⟨h36, h37⟩ := l3 t ht
  have x15 : μ 107 (15 + 6 * t) = x (15 + 6 * t) := ex _ (by omega)
  have x14 : μ 107 (14 + 6 * t) = x (14 + 6 * t) := ex _ (by omega)
  have no : (¬ x (15 + 6 * t) = 3 ∧ ¬ x (15 + 6 * t) = 1) → zp (zf_Machine_canMove σ (Int32.ofNat t)) (fun a => zp (zf_M_canStep μ (Int32.ofNat t)) (fun b => a = b ∧ (a = 0 ∨ a = 1) ∧ (a = 1 → CANX ρ x t))) := fun h => by
    unfold zf_Machine_canMove zf_M_canStep zf_M_at
    refine zp_bind (zp_mono (c_howOf t4) fun r1 e1 => zp_bind (zp_mono (c_slotOf t4) fun r2 e2 => ?_))
    rw [h36] at e1
    subst e1
    refine zp_chk fun _ => zp_ite (fun _ => zp_ite (fun q => absurd q h.2) fun _ => zp_some ?_) fun q => absurd (Classical.not_not.mp q) h.1
    refine zp_bind (zp_mono (m_stateOf t4) fun s1 f1 => zp_bind (zp_some (zp_chk fun _ => ?_)))
    rw [x15] at f1
    subst f1
    exact zp_ite (fun _ => zp_ite (fun q => absurd q h.2) fun _ => zp_some ⟨rfl, Or.inl rfl, fun q => absurd q (by decide)⟩) fun q => absurd (Classical.not_not.mp q) h.1
  have own : ∀ l, l < 4 → (σ 38 l = -1 ∧ μ 107 (6 + l) = 0) ∨ ∃ u, u < m ∧ σ 38 l = Int32.ofNat u ∧ μ 107 (6 + l) = Int32.ofNat (u + 1) := fun l hl => by
    rw [ex (6 + l) (by omega)]
    exact l4 l hl
  rcases a4 t ht with v | ⟨v, z, zS, es⟩ | ⟨v, z, l', zS, es, k7, lt4, e8, _⟩ | v
  · exact no (by rw [v.1]; decide)
  · rcases v with v | v
    · obtain ⟨k92, _, _, _, nm, _, _⟩ := p4 t z ht zS
      have slot := h37 z (by omega) es (by rw [e5]; exact (zo_lt (by omega) (by omega)).mpr zS)
      unfold zf_Machine_canMove
      refine zp_bind (zp_mono (c_howOf t4) fun r1 e1 => zp_bind (zp_mono (c_slotOf t4) fun r2 e2 => ?_))
      rw [h36, v] at e1
      rw [slot] at e2
      subst e1 e2
      rw [zo_n (m := 24 * t + z) (by omega), l1 7 (by decide) (by decide), l1 8 (by decide) (by decide)]
      have ref : ∀ {Q : Int32 → Prop}, zp (
          if ¬ (μ 92 (24 * t + z)) = 3 then
            if ¬ (μ 92 (24 * t + z)) = 11 then some 1
            else (zf_M_stateOf μ (μ 93 (24 * t + z))).bind fun r11 => if r11 = 4 then some 1 else (zf_M_stateOf μ (μ 93 (24 * t + z))).bind fun r14 => if ¬ r14 = 5 then some 0 else some 1
          else
            if 0 ≤ (6 + (μ 93 (24 * t + z))) ∧ (6 + (μ 93 (24 * t + z))) < 40 then
              if (μ 107 (6 + (μ 93 (24 * t + z))).toNatClampNeg) = 0 then some 1
              else if ¬ (μ 107 (6 + (μ 93 (24 * t + z))).toNatClampNeg) = (Int32.ofNat t + 1) then some 0 else some 1
            else none) Q → zp (zf_M_canStep μ (Int32.ofNat t)) Q := by
        intro Q h
        unfold zf_M_canStep zf_M_at zb_M_canStep_141 zb_M_canStep_96
        refine zp_bind (zp_mono (m_stateOf t4) fun s1 f1 => zp_bind (zp_some ?_))
        rw [x15, v] at f1
        subst f1
        rw [zo_at t4, zo_n (m := 14 + 6 * t) (by omega), x14, es, (z24 t4 (by omega)).2.1]
        refine zp_chk fun _ => zp_ite (fun _ => zp_ite (fun _ => zp_chk fun _ => ?_) fun q => absurd rfl q) fun q => absurd q (by decide)
        by_cases c3 : (μ 92 (24 * t + z)) = 3
        · rw [if_neg (fun q => q c3)] at h
          exact zp_ite (fun q => absurd c3 q) fun _ => zp_chk fun _ => h
        · rw [if_pos c3] at h
          refine zp_ite (fun _ => zp_chk fun _ => ?_) fun q => absurd q (fun q => q c3)
          by_cases c11 : (μ 92 (24 * t + z)) = 11
          · rw [if_neg (fun q => q c11)] at h
            refine zp_ite (fun q => absurd c11 q) fun _ => zp_chk fun _ => ?_
            refine zp_bind fun r11 e11 => ?_
            have h' := zp_unbind h r11 e11
            dsimp only at h' ⊢
            by_cases c4 : r11 = 4
            · rw [if_pos c4] at h'
              exact zp_ite (fun _ => h') fun q => absurd c4 q
            · rw [if_neg c4] at h'
              exact zp_ite (fun q => absurd q c4) fun _ => zp_chk fun _ => h'
          · rw [if_pos c11] at h
            exact zp_ite (fun _ => h) fun q => absurd q (fun q => q c11)
      rw [k92]
      refine zp_chk fun _ => zp_ite (fun _ => zp_ite (fun _ => zp_chk fun _ => ?_) fun q => absurd rfl q) fun q => absurd q (by decide)
      unfold zb_Machine_canMove_108 zb_Machine_canMove_134
      refine zp_ite (fun c3 => ?_) fun c3 => ?_
      · obtain ⟨l, hl, f8, f93, _⟩ := nm (Or.inl c3)
        rw [f8]
        have REF : ∀ {Q : Int32 → Prop}, zp (if (μ 107 (6 + l)) = 0 then some 1 else if ¬ (μ 107 (6 + l)) = (Int32.ofNat t + 1) then some 0 else some 1) Q → zp (zf_M_canStep μ (Int32.ofNat t)) Q := fun {Q} h => by
          refine ref ?_
          have e6 : (6 : Int32) + Int32.ofNat l = Int32.ofNat (6 + l) := zo_plus (i := 6) rfl (by omega)
          rw [if_neg (fun q => q c3), f93, e6, zo_n (by omega)]
          exact zp_chk fun _ => h
        refine zp_bind (zp_mono (c_ownerOf hl) fun r13 e13 => zp_ite (fun q => ?_) fun q => zp_bind (zp_mono (c_ownerOf hl) fun r15 e15 => ?_))
        · refine zp_some (REF ?_)
          rcases own l hl with ⟨_, o⟩ | ⟨u, hu, o, _⟩
          · rw [if_pos o]
            refine zp_some ⟨rfl, Or.inr rfl, fun _ => Or.inl ⟨v, fun z' l' z1 z2 _ l1' e' => Or.inl ?_⟩⟩
            have zE : z' = z := zo_inj (by omega) (by omega) (z2.symm.trans es)
            rw [zE, f8] at e'
            rw [← zo_inj (by omega) (by omega) e', ← ex _ (by omega)]
            exact o
          · exact absurd ((e13.symm.trans q).symm.trans o).symm (zo_ne (by omega))
        · rcases own l hl with ⟨o, _⟩ | ⟨u, hu, o, o'⟩
          · exact absurd (e13.trans o) q
          · rw [o] at e15
            subst e15
            have nz : ¬ μ 107 (6 + l) = 0 := fun w => by
              have := zo_inj (k := u + 1) (j := 0) (by omega) (by omega) (o'.symm.trans w)
              omega
            refine zp_ite (fun y => zp_some (REF ?_)) fun y => zp_some (REF ?_)
            · rw [if_neg nz, if_pos (fun w => y ?_)]
              · exact zp_some ⟨rfl, Or.inl rfl, fun q => absurd q (by decide)⟩
              · rw [o', zo_1 (by omega)] at w
                rw [show u = t by have := zo_inj (k := u + 1) (j := t + 1) (by omega) (by omega) w; omega]
            · have ut : u = t := zo_inj (by omega) (by omega) (Classical.not_not.mp y)
              have w' : μ 107 (6 + l) = Int32.ofNat t + 1 := by rw [o', zo_1 (by omega), ut]
              rw [if_neg nz, if_neg (fun w => w w')]
              refine zp_some ⟨rfl, Or.inr rfl, fun _ => Or.inl ⟨v, fun z' l' z1 z2 _ l1' e' => Or.inr ?_⟩⟩
              have zE : z' = z := zo_inj (by omega) (by omega) (z2.symm.trans es)
              rw [zE, f8] at e'
              rw [← zo_inj (by omega) (by omega) e', ← ex _ (by omega), o', ut]
      · have NO3 : (1 : Int32) = 1 → CANX ρ x t := fun _ => Or.inl ⟨v, fun z' l' z1 z2 k3 => absurd (show μ 92 (24 * t + z) = 3 by rw [← k92, ← k3, zo_inj (k := z') (j := z) (by omega) (by omega) (z2.symm.trans es)]) c3⟩
        refine zp_ite (fun c11 => ?_) fun c11 => ?_
        · obtain ⟨l, hl, f8, f93, lm⟩ := nm (by rw [c11]; decide)
          have lm := lm (Or.inr c11)
          rw [f8]
          have REF : ∀ {Q : Int32 → Prop}, zp (if x (15 + 6 * l) = 4 then some 1 else if ¬ x (15 + 6 * l) = 5 then some 0 else some 1) Q → zp (zf_M_canStep μ (Int32.ofNat t)) Q := fun {Q} h => by
            refine ref ?_
            rw [if_pos c3, if_neg (fun q => q c11), f93]
            refine zp_bind (zp_mono (m_stateOf hl) fun r11 e11 => ?_)
            rw [ex _ (by omega)] at e11
            subst e11
            by_cases c4 : x (15 + 6 * l) = 4
            · rw [if_pos c4] at h ⊢; exact h
            · rw [if_neg c4] at h ⊢
              refine zp_bind (zp_mono (m_stateOf hl) fun r14 e14 => ?_)
              rw [ex _ (by omega)] at e14
              subst e14
              exact h
          refine zp_bind (zp_mono (c_howOf hl) fun r9 e9 => ?_)
          rw [(l3 l lm).1] at e9
          subst e9
          refine zp_ite (fun q => zp_some (REF ?_)) fun q => zp_bind (zp_mono (c_howOf hl) fun r11 e11 => ?_)
          · rw [if_pos q]; exact zp_some ⟨rfl, Or.inr rfl, NO3⟩
          · rw [(l3 l lm).1] at e11
            subst e11
            refine zp_ite (fun y => zp_some (REF ?_)) fun y => zp_some (REF ?_)
            · rw [if_neg q, if_pos y]; exact zp_some ⟨rfl, Or.inl rfl, fun q => absurd q (by decide)⟩
            · rw [if_neg q, if_neg y]; exact zp_some ⟨rfl, Or.inr rfl, NO3⟩
        · refine zp_some (ref ?_)
          rw [if_pos c3, if_pos c11]
          exact zp_some ⟨rfl, Or.inr rfl, NO3⟩
    · exact no (by rw [v]; decide)
  · rcases v with v | v
    · exact no (by rw [v]; decide)
    · obtain ⟨k92, _, _, _, nm, _, _⟩ := p4 t z ht zS
      have slot := h37 z (by omega) es (by rw [e5]; exact (zo_lt (by omega) (by omega)).mpr zS)
      obtain ⟨l, hl, f8, f93, _⟩ := nm (by rw [← k92, k7]; decide)
      unfold zf_Machine_canMove
      refine zp_bind (zp_mono (c_howOf t4) fun r1 e1 => zp_bind (zp_mono (c_slotOf t4) fun r2 e2 => ?_))
      rw [h36, v] at e1
      rw [slot] at e2
      subst e1 e2
      rw [zo_n (m := 24 * t + z) (by omega), l1 8 (by decide) (by decide), f8]
      have REF : ∀ {Q : Int32 → Prop}, zp (if ¬ (μ 107 (6 + l)) = 0 then some 0 else some 1) Q → zp (zf_M_canStep μ (Int32.ofNat t)) Q := fun {Q} h => by
        have e6 : (6 : Int32) + Int32.ofNat l = Int32.ofNat (6 + l) := zo_plus (i := 6) rfl (by omega)
        unfold zf_M_canStep zf_M_at
        refine zp_bind (zp_mono (m_stateOf t4) fun s1 f1 => zp_bind (zp_some ?_))
        rw [x15, v] at f1
        subst f1
        rw [zo_at t4, zo_n (m := 14 + 6 * t) (by omega), x14, es, (z24 t4 (by omega)).2.1, f93, e6, zo_n (m := 6 + l) (by omega)]
        exact zp_chk fun _ => zp_ite (fun q => absurd rfl q) fun _ => zp_chk fun _ => zp_chk fun _ => h
      refine zp_chk fun _ => zp_ite (fun q => absurd rfl q) fun _ => zp_bind (zp_mono (c_ownerOf hl) fun r17 e17 => ?_)
      rcases own l hl with ⟨o, o'⟩ | ⟨u, hu, o, o'⟩
      · refine zp_ite (fun q => absurd (e17.trans o) q) fun _ => zp_some (REF ?_)
        rw [if_neg (fun q => q o')]
        refine zp_some ⟨rfl, Or.inr rfl, fun _ => Or.inr ⟨v, fun z' l' z1 z2 l1' e' => ?_⟩⟩
        have zE : z' = z := zo_inj (by omega) (by omega) (z2.symm.trans es)
        rw [zE, f8] at e'
        rw [← zo_inj (by omega) (by omega) e', ← ex _ (by omega)]
        exact o'
      · have nz : ¬ μ 107 (6 + l) = 0 := fun w => by
          have := zo_inj (k := u + 1) (j := 0) (by omega) (by omega) (o'.symm.trans w)
          omega
        refine zp_ite (fun _ => zp_some (REF ?_)) fun q => absurd ((Classical.not_not.mp q).symm.trans (e17.trans o)).symm (zo_ne (by omega))
        rw [if_pos nz]
        exact zp_some ⟨rfl, Or.inl rfl, fun q => absurd q (by decide)⟩
  · exact no (by rw [v.1]; decide)
