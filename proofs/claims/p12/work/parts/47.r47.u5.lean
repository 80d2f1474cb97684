-- both answer alike
set_option maxRecDepth 2000
theorem MID.chg {m t : Nat} {len : Nat → Nat} {nc : Nat → Nat → Nat} {ρ : zS} {a a' : Nat → Nat} {w w' x x' : Nat → Int32} (m4 : m ≤ 4) (ht : t < m) (h : MID m len nc ρ t a w x) (fw : FWB (w' 0) x') (ew : ∀ u, u < 4 → u ≠ t → w' (u + 1) = w (u + 1)) (tw : ∃ s h, TWB (w' (t + 1)) s h (fun i => x' (16 + 6 * t + i))) (ex : ∀ i, 14 ≤ i → i < 40 → (i < 14 + 6 * t ∨ 19 + 6 * t < i) → x' i = x i) (s0 : x' (19 + 6 * t) = 0) (ow : ∀ l, l < 4 → OWN m (HNA ρ nc x t a') x' l) : MID m len nc ρ t a' w' x' := by
  obtain ⟨_, ⟨a2, _⟩, a3, a4, ⟨a5, _⟩, _, a7⟩ := h
  refine ⟨fw, ⟨fun u hu ne => ?_, tw⟩, fun u hu h4 => ?_, fun u hu ne => ?_, ⟨fun u hu ne => ?_, s0⟩, fun l hl => (ow l hl).congr (fun u hu => ?_) rfl rfl, ?_⟩
  · rw [ew u (by omega) ne]
    exact (a2 u hu ne).of (ex _ (by omega) (by omega) (by omega)) (ex _ (by omega) (by omega) (by omega)) fun i hi => ex _ (by omega) (by omega) (by omega)
  · rw [ew u h4 (by omega)]
    exact ⟨(a3 u hu h4).1, fun i hi => by rw [ex _ (by omega) (by omega) (by omega)]; exact (a3 u hu h4).2 i hi⟩
  · rw [ex (14 + 6 * u) (by omega) (by omega) (by omega), ex (15 + 6 * u) (by omega) (by omega) (by omega)]; exact a4 u hu ne
  · unfold SVD
    rw [ex (15 + 6 * u) (by omega) (by omega) (by omega), ex (14 + 6 * u) (by omega) (by omega) (by omega), ex (19 + 6 * u) (by omega) (by omega) (by omega)]
    exact a5 u hu ne
  · by_cases c : u = t
    · rw [c, HNA.at, HNA.at]
    · rw [HNA.ne c, HNA.ne c]
      exact HN.congr (ex _ (by omega) (by omega) (by omega)) (ex _ (by omega) (by omega) (by omega))
  · rw [ex 38 (by omega) (by omega) (by omega), ex 39 (by omega) (by omega) (by omega)]; exact a7
theorem MID.loc {m t j : Nat} {len : Nat → Nat} {nc : Nat → Nat → Nat} {ρ : zS} {a : Nat → Nat} {w w' x x' : Nat → Int32} {y : Int32} (m4 : m ≤ 4) (ht : t < m) (hj : j < 3) (h : MID m len nc ρ t a w x) (ew : ∀ i, i < 5 → i ≠ t + 1 → w' i = w i) (et : w' (t + 1) = (w (t + 1) &&& ((zJ_shl 7 (Int32.ofNat (3 * j))) ^^^ (-1))) ||| (zJ_shl (y &&& 7) (Int32.ofNat (3 * j)))) (ex : x' = zu x (16 + 6 * t + j) (y &&& 7)) : MID m len nc ρ t a w' x' := by
  subst ex
  have h' := h
  obtain ⟨a1, ⟨_, s, hh, a2'⟩, _, _, ⟨_, a5'⟩, a6, _⟩ := h
  refine h'.chg m4 ht ?_ (fun u hu ne => ew (u + 1) (by omega) (by omega)) ⟨s, hh, ?_⟩ (fun i h1 h2 h3 => zu_ne (by omega)) (by rw [zu_ne (by omega)]; exact a5') fun l hl => (a6 l hl).congr (fun _ _ => rfl) (zu_ne (by omega)) (zu_ne (by omega))
  · rw [ew 0 (by omega) (by omega)]
    exact a1.of fun f hf => zu_ne (by omega)
  · rw [et]
    refine (a2'.set hj).of rfl rfl fun i hi => ?_
    by_cases c : i = j
    · rw [c, zu_eq, zu_eq]
    · rw [zu_ne c, zu_ne (by omega)]
theorem MID.fld {m t j : Nat} {len : Nat → Nat} {nc : Nat → Nat → Nat} {ρ : zS} {a : Nat → Nat} {w w' x x' : Nat → Int32} {y : Int32} (m4 : m ≤ 4) (ht : t < m) (hj : j < 6) (h : MID m len nc ρ t a w x) (ew : ∀ i, i < 5 → i ≠ 0 → w' i = w i) (et : w' 0 = (w 0 &&& ((zJ_shl 7 (Int32.ofNat (3 * j))) ^^^ (-1))) ||| (zJ_shl (y &&& 7) (Int32.ofNat (3 * j)))) (ex : x' = zu x j (y &&& 7)) : MID m len nc ρ t a w' x' := by
  subst ex
  have h' := h
  obtain ⟨a1, ⟨_, s, hh, a2'⟩, _, _, ⟨_, a5'⟩, a6, _⟩ := h
  refine h'.chg m4 ht ?_ (fun u hu ne => ew (u + 1) (by omega) (by omega)) ⟨s, hh, ?_⟩ (fun i h1 h2 h3 => zu_ne (by omega)) (by rw [zu_ne (by omega)]; exact a5') fun l hl => (a6 l hl).congr (fun _ _ => rfl) (zu_ne (by omega)) (zu_ne (by omega))
  · rw [et]
    exact a1.set hj
  · rw [ew (t + 1) (by omega) (by omega)]
    exact a2'.of rfl rfl fun i hi => zu_ne (by omega)
theorem MID.take {m t l : Nat} {len : Nat → Nat} {nc : Nat → Nat → Nat} {ρ : zS} {a : Nat → Nat} {w x x' : Nat → Int32} (m4 : m ≤ 4) (ht : t < m) (hl : l < 4) (a8 : a l ≤ 100) (h : MID m len nc ρ t a w x) (ok : x (6 + l) = 0 ∨ x (6 + l) = Int32.ofNat (t + 1)) (ex : x' = zu (zu x (6 + l) (Int32.ofNat (t + 1))) (10 + l) (x (10 + l) + 1)) : MID m len nc ρ t (OUTN 3 (Int32.ofNat l) a) w x' := by
  subst ex
  have h' := h
  obtain ⟨a1, ⟨_, s, hh, a2'⟩, _, _, ⟨_, a5'⟩, a6, _⟩ := h
  have e : ∀ i, (i < 6 ∨ 14 ≤ i) → (zu (zu x (6 + l) (Int32.ofNat (t + 1))) (10 + l) (x (10 + l) + 1)) i = x i := fun i hi => by rw [zu_ne (by omega), zu_ne (by omega)]
  refine h'.chg m4 ht (a1.of fun f hf => e f (by omega)) (fun _ _ _ => rfl) ⟨s, hh, a2'.of rfl rfl fun i hi => e _ (by omega)⟩ (fun i h1 h2 h3 => e i (by omega)) (by rw [e _ (by omega)]; exact a5') fun j hj => ?_
  by_cases c : j = l
  · subst c
    have oj : OUTN 3 (Int32.ofNat j) a j = a j + 1 := if_pos ⟨rfl, rfl⟩
    have others : ∀ u, u < m → u ≠ t → HN ρ nc x u j = 0 := fun u hu ne => by
      rcases a6 j hj with ⟨b1, _⟩ | ⟨v, hv, b1, b2, b3, _⟩
      · have := b1 u hu
        rw [HNA.ne ne] at this
        exact this
      · have vt : v = t := by
          rcases ok with o | o
          · have := zo_inj (k := v + 1) (j := 0) (by omega) (by omega) (b3.symm.trans o)
            omega
          · have := zo_inj (k := v + 1) (j := t + 1) (by omega) (by omega) (b3.symm.trans o)
            omega
        have := b2 u hu (by omega)
        rw [HNA.ne ne] at this
        exact this
    have cnt : x (10 + j) = Int32.ofNat (a j) := by
      rcases a6 j hj with ⟨b1, b2, b3⟩ | ⟨v, hv, b1, b2, b3, b4⟩
      · have := b1 t ht
        rw [HNA.at] at this
        rw [b3, this]; rfl
      · by_cases d : v = t
        · rw [d, HNA.at] at b4; exact b4
        · rw [HNA.ne d, others v hv d] at b1
          omega
    refine Or.inr ⟨t, ht, by rw [HNA.at, oj]; omega, fun u hu ne => by rw [HNA.ne ne]; exact others u hu ne, by rw [zu_ne (by omega), zu_eq], ?_⟩
    rw [zu_eq, HNA.at, oj, cnt, zo_1 (by omega)]
  · refine (a6 j hj).congr (fun u hu => ?_) (by rw [zu_ne (by omega), zu_ne (by omega)]) (by rw [zu_ne (by omega), zu_ne (by omega)])
    by_cases d : u = t
    · rw [d, HNA.at, HNA.at]
      unfold OUTN
      rw [if_neg fun q => c (zo_inj (by omega) (by omega) q.2.symm), if_neg fun q => absurd q.1 (by decide)]
    · rw [HNA.ne d, HNA.ne d]
theorem MID.leave {m t l : Nat} {len : Nat → Nat} {nc : Nat → Nat → Nat} {ρ : zS} {a : Nat → Nat} {w x : Nat → Int32} (m4 : m ≤ 4) (ht : t < m) (hl : l < 4) (a0 : 0 < a l) (a8 : a l ≤ 100) (h : MID m len nc ρ t a w x) : x (10 + l) = Int32.ofNat (a l) ∧ ∀ x', x' = zu (zu x (10 + l) (x (10 + l) - 1)) (6 + l) (if a l = 1 then 0 else Int32.ofNat (t + 1)) → MID m len nc ρ t (OUTN 4 (Int32.ofNat l) a) w x' := by
  have h' := h
  obtain ⟨a1, ⟨_, s, hh, a2'⟩, _, _, ⟨_, a5'⟩, a6, _⟩ := h
  have own : (∀ u, u < m → u ≠ t → HN ρ nc x u l = 0) ∧ x (6 + l) = Int32.ofNat (t + 1) ∧ x (10 + l) = Int32.ofNat (a l) := by
    rcases a6 l hl with ⟨b1, _⟩ | ⟨v, hv, b1, b2, b3, b4⟩
    · have := b1 t ht
      rw [HNA.at] at this
      omega
    · have vt : v = t := by
        by_cases d : v = t
        · exact d
        · have := b2 t ht (fun q => d q.symm)
          rw [HNA.at] at this
          omega
      subst vt
      rw [HNA.at] at b4
      refine ⟨fun u hu ne => ?_, b3, b4⟩
      have := b2 u hu ne
      rw [HNA.ne ne] at this
      exact this
  refine ⟨own.2.2, ?_⟩
  rintro x' rfl
  have e : ∀ i, (i < 6 ∨ 14 ≤ i) → (zu (zu x (10 + l) (x (10 + l) - 1)) (6 + l) (if a l = 1 then 0 else Int32.ofNat (t + 1))) i = x i := fun i hi => by rw [zu_ne (by omega), zu_ne (by omega)]
  refine h'.chg m4 ht (a1.of fun f hf => e f (by omega)) (fun _ _ _ => rfl) ⟨s, hh, a2'.of rfl rfl fun i hi => e _ (by omega)⟩ (fun i h1 h2 h3 => e i (by omega)) (by rw [e _ (by omega)]; exact a5') fun j hj => ?_
  by_cases c : j = l
  · subst c
    have oj : OUTN 4 (Int32.ofNat j) a j = a j - 1 := by
      unfold OUTN
      rw [if_neg fun q => absurd q.1 (by decide), if_pos ⟨rfl, rfl⟩]
    have v10 : (zu (zu x (10 + j) (x (10 + j) - 1)) (6 + j) (if a j = 1 then 0 else Int32.ofNat (t + 1))) (10 + j) = Int32.ofNat (a j - 1) := by rw [zu_ne (by omega), zu_eq, own.2.2, zo_pred a0 (by omega)]
    by_cases d : a j = 1
    · refine Or.inl ⟨fun u hu => ?_, by rw [zu_eq, if_pos d], by rw [v10, d]; rfl⟩
      by_cases f : u = t
      · rw [f, HNA.at, oj, d]
      · rw [HNA.ne f]; exact own.1 u hu f
    · exact Or.inr ⟨t, ht, by rw [HNA.at, oj]; omega, fun u hu ne => by rw [HNA.ne ne]; exact own.1 u hu ne, by rw [zu_eq, if_neg d], by rw [v10, HNA.at, oj]⟩
  · refine (a6 j hj).congr (fun u hu => ?_) (by rw [zu_ne (by omega), zu_ne (by omega)]) (by rw [zu_ne (by omega), zu_ne (by omega)])
    by_cases d : u = t
    · rw [d, HNA.at, HNA.at]
      unfold OUTN
      rw [if_neg fun q => absurd q.1 (by decide), if_neg fun q => c (zo_inj (by omega) (by omega) q.2.symm)]
    · rw [HNA.ne d, HNA.ne d]
def vl (x : Nat → Int32) (t : Nat) (v : Int32) : Int32 := if 8 ≤ v then x (16 + 6 * t + (v.toNatClampNeg - 8)) else v
theorem vl_rng {x : Nat → Int32} {t : Nat} {w s h v : Int32} (tw : TWB w s h (fun i => x (16 + 6 * t + i))) (r : VR v) : 0 ≤ vl x t v ∧ vl x t v ≤ 7 := by
  have n := z_nat r.1
  have b := Int32.le_iff_toInt_le.mp r.2
  have k : (10 : Int32).toInt = 10 := rfl
  unfold vl
  by_cases c : (8 : Int32) ≤ v
  · have b' := Int32.le_iff_toInt_le.mp c
    have k8 : (8 : Int32).toInt = 8 := rfl
    rw [if_pos c]
    exact tw.1.2.2 (v.toNatClampNeg - 8) (by omega)
  · rw [if_neg c]
    have l := Int32.lt_iff_toInt_lt.mp (Int32.not_le.mp c)
    have k8 : (8 : Int32).toInt = 8 := rfl
    have k7 : (7 : Int32).toInt = 7 := rfl
    exact ⟨r.1, Int32.le_iff_toInt_le.mpr (by omega)⟩
theorem v_ex {v : Int32} (r : VR v) (c : (8 : Int32) ≤ v) : ∃ j, j < 3 ∧ v = Int32.ofNat (8 + j) ∧ v.toNatClampNeg - 8 = j := by
  have n := z_nat r.1
  have b := Int32.le_iff_toInt_le.mp r.2
  have k : (10 : Int32).toInt = 10 := rfl
  have b' := Int32.le_iff_toInt_le.mp c
  have k8 : (8 : Int32).toInt = 8 := rfl
  refine ⟨v.toNatClampNeg - 8, by omega, ?_, rfl⟩
  rw [show 8 + (v.toNatClampNeg - 8) = v.toNatClampNeg by omega]
  exact (zo_mk r.1).symm
theorem c_value {σ : zS} {x : Nat → Int32} {t : Nat} {s h v : Int32} (t4 : t < 4) (tw : TWB (σ 39 (t + 1)) s h (fun i => x (16 + 6 * t + i))) (r : VR v) : zp (zf_Machine_valueOf σ (Int32.ofNat t) v) (fun u => u = vl x t v) := by
  unfold zf_Machine_valueOf zf_Machine_localOf vl
  refine zp_ite (fun c => zp_bind ?_) fun c => zp_some (by rw [if_neg c])
  obtain ⟨j, hj, e, e'⟩ := v_ex r c
  rw [if_pos c, e', zo_1 (m := t) (by omega), zo_n (m := t + 1) (by omega)]
  have e8 : v - 8 = Int32.ofNat j := by
    rw [e]
    have b : ∀ j : Fin 3, Int32.ofNat (8 + j.val) - 8 = Int32.ofNat j.val := by decide
    exact b ⟨j, hj⟩
  have e3 : 3 * Int32.ofNat j = Int32.ofNat (3 * j) := by
    show Int32.ofNat 3 * Int32.ofNat j = _
    rw [← Int32.ofNat_mul]
  rw [e8, e3]
  refine zp_ite (fun q => ?_) fun _ => zp_ite (fun q => ?_) fun _ => zp_chk fun _ => zp_some (zp_some (tw.loc hj))
  · have := (zo_lt (k := t) (j := 0) (by omega) (by omega)).mp q
    omega
  · have := (zo_le (k := 4) (j := t) (by omega) (by omega)).mp q
    omega
theorem m_value {μ : zS} {t : Nat} {v : Int32} (t4 : t < 4) (r : VR v) : zp (zf_M_valueOf μ (Int32.ofNat t) v) (fun u => u = vl (μ 107) t v) := by
  unfold zf_M_valueOf zf_M_at vl
  refine zp_ite (fun c => zp_bind (zp_some ?_)) fun c => zp_some (by rw [if_neg c])
  obtain ⟨j, hj, e, e'⟩ := v_ex r c
  have i : ((14 + 6 * Int32.ofNat t + 2) + v) - 8 = Int32.ofNat (16 + 6 * t + j) := by
    rw [zo_at t4, e]
    have b : ∀ t : Fin 4, ∀ j : Fin 3, ((Int32.ofNat (14 + 6 * t.val) + 2) + Int32.ofNat (8 + j.val)) - 8 = Int32.ofNat (16 + 6 * t.val + j.val) := by decide
    exact b ⟨t, t4⟩ ⟨j, hj⟩
  rw [if_pos c, e', i, zo_n (m := 16 + 6 * t + j) (by omega)]
  exact zp_chk fun _ => zp_some rfl
theorem p_holds {σ μ : zS} {x : Nat → Int32} {t q : Nat} {s h : Int32} (t4 : t < 4) (q96 : q < 96) (tw : TWB (σ 39 (t + 1)) s h (fun i => x (16 + 6 * t + i))) (ex : ∀ i, i < 40 → μ 107 i = x i) (e14 : σ 14 q = μ 99 q) (e16 : σ 16 q = μ 100 q) (sg : SGQ (σ 15 q) (μ 101 q)) (r1 : VR (σ 14 q)) (r2 : VR (σ 16 q)) : zp (zf_Machine_holds σ (Int32.ofNat t) (Int32.ofNat q)) (fun a => zp (zf_M_isSo μ (Int32.ofNat t) (Int32.ofNat q)) (fun b => a = b)) := by
  have vx : ∀ v, VR v → vl (μ 107) t v = vl x t v := fun v r => by
    unfold vl
    by_cases c : (8 : Int32) ≤ v
    · obtain ⟨j, hj, _, e'⟩ := v_ex r c
      rw [if_pos c, if_pos c, e', ex _ (by omega)]
    · rw [if_neg c, if_neg c]
  unfold zf_Machine_holds zf_M_isSo
  rw [zo_n (m := q) (by omega)]
  refine zp_chk fun _ => zp_bind (zp_mono (c_value t4 tw r1) fun u1 f1 => zp_chk fun _ => zp_bind (zp_mono (c_value t4 tw r2) fun u2 f2 => zp_chk fun _ => ?_))
  have ref : ∀ {Q : Int32 → Prop}, zp (if ¬ (μ 101 q) = 1000 then if ¬ (μ 101 q) = 1001 then if ¬ (μ 101 q) = 60 then (if u1 ≤ u2 then some 0 else some 1) else (if u2 ≤ u1 then some 0 else some 1) else (if u1 = u2 then some 0 else some 1) else (if ¬ u1 = u2 then some 0 else some 1)) Q → zp (if 0 ≤ Int32.ofNat q ∧ Int32.ofNat q < 96 then
    (zf_M_valueOf μ (Int32.ofNat t) (μ 99 q)).bind fun r2 =>
    if 0 ≤ Int32.ofNat q ∧ Int32.ofNat q < 96 then
      (zf_M_valueOf μ (Int32.ofNat t) (μ 100 q)).bind fun r4 =>
      if 0 ≤ Int32.ofNat q ∧ Int32.ofNat q < 96 then
        if ¬ (μ 101 q) = 1000 then
          if 0 ≤ Int32.ofNat q ∧ Int32.ofNat q < 96 then
            if ¬ (μ 101 q) = 1001 then
              if 0 ≤ Int32.ofNat q ∧ Int32.ofNat q < 96 then
                if ¬ (μ 101 q) = 60 then
                  if r2 ≤ r4 then
                    some (0)
                  else
                    some (1)
                else
                  if r4 ≤ r2 then
                    some (0)
                  else
                    some (1)
              else none
            else
              if r2 = r4 then
                some (0)
              else
                some (1)
          else none
        else
          if ¬ r2 = r4 then
            some (0)
          else
            some (1)
      else none
    else none
  else none) Q := by
    intro Q h
    refine zp_chk fun _ => zp_bind (zp_mono (m_value t4 (by rw [← e14]; exact r1)) fun v1 g1 => zp_chk fun _ => zp_bind (zp_mono (m_value t4 (by rw [← e16]; exact r2)) fun v2 g2 => zp_chk fun _ => ?_))
    have h1 : v1 = u1 := by rw [g1, f1, e14, vx _ (by rw [← e14]; exact r1)]
    have h2 : v2 = u2 := by rw [g2, f2, e16, vx _ (by rw [← e16]; exact r2)]
    subst h1 h2
    by_cases c1 : (μ 101 q) = 1000
    · rw [if_neg (fun z => z c1)] at h
      exact zp_ite (fun z => absurd c1 z) fun _ => h
    · rw [if_pos c1] at h
      refine zp_ite (fun _ => zp_chk fun _ => ?_) fun z => absurd z (fun z => z c1)
      by_cases c2 : (μ 101 q) = 1001
      · rw [if_neg (fun z => z c2)] at h
        exact zp_ite (fun z => absurd c2 z) fun _ => h
      · rw [if_pos c2] at h
        refine zp_ite (fun _ => zp_chk fun _ => ?_) fun z => absurd z (fun z => z c2)
        by_cases c3 : (μ 101 q) = 60
        · rw [if_neg (fun z => z c3)] at h
          exact zp_ite (fun z => absurd c3 z) fun _ => h
        · rw [if_pos c3] at h
          exact zp_ite (fun _ => h) fun z => absurd z (fun z => z c3)
  have both : ∀ {P : Prop} [Decidable P], zp (if P then some (0 : Int32) else some 1) (fun a => zp (if P then some (0 : Int32) else some 1) (fun b => a = b)) := fun {P} _ => by
    by_cases c : P
    · rw [if_pos c]; exact zp_some (zp_some rfl)
    · rw [if_neg c]; exact zp_some (zp_some rfl)
  rcases sg with ⟨s1, s2⟩ | ⟨s1, s2⟩ | ⟨s1, s2⟩ | ⟨s1, s2⟩
  · rw [s1]
    refine zp_ite (fun z => absurd z (by decide)) fun _ => zp_ite (fun _ => zp_mono both fun a h => ref ?_) fun z => absurd rfl z
    rw [s2, if_neg (by decide)]
    exact h
  · rw [s1]
    refine zp_ite (fun z => absurd z (by decide)) fun _ => zp_ite (fun z => absurd z (by decide)) fun _ => zp_ite (fun _ => zp_mono both fun a h => ref ?_) fun z => absurd rfl z
    rw [s2, if_pos (by decide), if_neg (by decide)]
    exact h
  · rw [s1]
    refine zp_ite (fun _ => zp_mono both fun a h => ref ?_) fun z => absurd rfl z
    rw [s2, if_pos (by decide), if_pos (by decide), if_neg (by decide)]
    exact h
  · rw [s1]
    refine zp_ite (fun z => absurd z (by decide)) fun _ => zp_ite (fun z => absurd z (by decide)) fun _ => zp_ite (fun z => absurd z (by decide)) fun _ => zp_mono both fun a h => ref ?_
    rw [s2, if_pos (by decide), if_pos (by decide), if_pos (by decide)]
    exact h
