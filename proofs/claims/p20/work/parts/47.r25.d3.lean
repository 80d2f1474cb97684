-- both answer alike
set_option maxRecDepth 2000
theorem DBT.of {σ r : zS} {c2 : Nat} {len : Nat → Nat} (e4 : r 4 = σ 4) (e : ∀ q, 6 ≤ q ∧ q ≤ 11 → r q = σ q) : DBT r c2 len = DBT σ c2 len := by
  funext v w
  have ne : ∀ {a b s : Nat}, NEA r len a b s ↔ NEA σ len a b s := fun {a b s} => NEA.of fun q hq => e q (by omega)
  unfold DBT CLS
  rw [e4, e 7 (by decide), e 8 (by decide), e 11 (by decide), propext ne, propext ne]
def JDD (σ : zS) (c2 : Nat) (len : Nat → Nat) : Prop := ¬ σ 76 5 = 0 → STO σ (all (DBT σ c2 len) 0 96)
theorem JDD.of {σ r : zS} {c2 : Nat} {len : Nat → Nat} (h : JDD σ c2 len) (e4 : r 4 = σ 4) (e : ∀ q, 6 ≤ q ∧ q ≤ 11 → r q = σ q) (f : ∀ q, 76 ≤ q ∧ q ≤ 80 → r q = σ q) : JDD r c2 len := by
  unfold JDD STO at *
  rw [f 76 (by decide), f 79 (by decide), f 80 (by decide), DBT.of e4 e]
  exact h
theorem p_prepareD {N : Nat} {σ : zS} {c2 : Nat} {len : Nat → Nat} (pj : PJ σ c2 len) (fd : FLD σ) (jd : JDN σ c2 len) (jt : JDD σ c2 len) : zp (zf_Judge_prepare N σ) (fun r => (∀ q, (q < 76 ∨ 80 < q) → r q = σ q) ∧ JDN r c2 len ∧ JDD r c2 len ∧ ¬ r 76 5 = 0) := by
  unfold zf_Judge_prepare
  refine zp_ite (fun z => zp_some ⟨fun _ _ => rfl, jd, jt, z⟩) fun z => ?_
  have pj1 : PJ (zx_up σ 76 5 1) c2 len := pj.of (fun q hq => zu_other (by omega)) (by rw [zu_other (by decide)])
  refine p_prep14 pj1 (fun r f h => ?_) N 0 _ (Nat.zero_le _) (fun _ _ => rfl) (fun _ _ _ _ w => absurd w (Nat.not_lt_zero _))
  have f0 : ∀ q, q < 76 ∨ 80 < q → r q = σ q := fun q hq => by rw [f q (by omega), zu_other (by omega)]
  have pr : PJ r c2 len := pj.of (fun q hq => f0 q (by omega)) (by rw [f0 82 (by decide)])
  have fr : FLD r := ⟨fd.1.of (by rw [f0 4 (by decide)]) (f0 5 (by decide)) (f0 7 (by decide)) (f0 8 (by decide)), fd.2.1.of (by rw [f0 4 (by decide)]) (by rw [f0 4 (by decide)]) (f0 88 (by decide)), by rw [f0 4 (by decide)]; exact fd.2.2⟩
  have ne : ∀ {x : zS}, (∀ q, 6 ≤ q ∧ q ≤ 10 → x q = σ q) → ∀ {a b s : Nat}, NEA (zx_up σ 76 5 1) len a b s ↔ NEA x len a b s := fun {x} hx {a b s} => ((NEA.of fun q hq => zu_other (by omega)) : NEA (zx_up σ 76 5 1) len a b s ↔ NEA σ len a b s).trans (NEA.of hx).symm
  have nr : ∀ a b, a < c2 → b < 4 → ∀ s, s < 24 → (bit (r 77 (4 * a + b)) s ↔ NEA r len a b s) := fun a b ha hb s hs => by
    rw [h a b ha hb s hs]
    exact ne fun q hq => f0 q (by omega)
  refine zp_bind (zp_mono (p_listDoubts pr fr nr) fun r3 h3 => zp_bind (zp_mono (wp_f_Judge_countRings fun _ _ => rfl) fun r4 h4 => zp_some ⟨fun q hq => ?_, fun _ a b ha hb s hs => ?_, fun _ => ?_, ?_⟩))
  · rw [zu_other (by omega), h4 q (by omega), h3.2 q (by omega), f0 q hq]
  · rw [zu_other (by decide), h4 77 (by decide), h3.2 77 (by decide), h a b ha hb s hs]
    exact ne fun q hq => by rw [zu_other (by omega), h4 q (by omega), h3.2 q (by omega), f0 q (by omega)]
  · have e : ∀ q, q ≠ 76 → q ≠ 78 → q ≠ 79 → q ≠ 80 → (zx_up r4.2 76 4 r4.1) q = r q := fun q a b c d => by rw [zu_other a, h4 q b, h3.2 q ⟨c, d⟩]
    rw [DBT.of (σ := r) (e 4 (by decide) (by decide) (by decide) (by decide)) fun q hq => e q (by omega) (by omega) (by omega) (by omega)]
    unfold STO
    rw [zu_other (by decide), zu_other (by decide), h4 79 (by decide), h4 80 (by decide)]
    exact h3.1
  · rw [zx_up_same, zu_ne (by decide), h4 76 (by decide), h3.2 76 (by decide), f 76 (by decide), zx_up_same, zu_eq]
    decide
theorem all_mem {P : Nat → Nat → Prop} : ∀ (n v y : Nat), y ∈ all P v n → ∃ a b, P a b ∧ b < 96 ∧ y = 96 * a + b := by
  have row : ∀ (n v w y : Nat), w + n ≤ 96 → y ∈ rwl P v w n → ∃ b, P v b ∧ b < 96 ∧ y = 96 * v + b := by
    intro n
    induction n with
    | zero => intro v w y _ h; rw [rwl] at h; cases h
    | succ n ih =>
      intro v w y hw h
      rw [rwl, List.mem_append] at h
      rcases h with h | h
      · by_cases c : P v w
        · rw [hit_y c] at h
          exact ⟨w, c, by omega, List.mem_singleton.mp h⟩
        · rw [hit_n c] at h
          cases h
      · exact ih v (w + 1) y (by omega) h
  intro n
  induction n with
  | zero => intro v y h; rw [all] at h; cases h
  | succ n ih =>
    intro v y h
    rw [all, List.mem_append] at h
    rcases h with h | h
    · by_cases c : 24 * (v / 24 + 1) ≤ 96
      · obtain ⟨b, h1, h2, h3⟩ := row _ v _ y (by omega) h
        exact ⟨v, b, h1, h2, h3⟩
      · rw [show 96 - 24 * (v / 24 + 1) = 0 by omega, rwl] at h
        cases h
    · exact ih (v + 1) y h
theorem p_doubtsW {N : Nat} {σ : zS} {c2 : Nat} {len : Nat → Nat} (pj : PJ σ c2 len) (fd : FLD σ) (l1 : σ 2 13 = 1) (l2 : σ 82 21 = 1) (jd : JDN σ c2 len) (jt : JDD σ c2 len) : zp (zf_X_doubts N σ) (fun r => zp (zf_M_doubts N r.2) (fun s => r.1 = s.1)) := by
  unfold zf_X_doubts
  refine zp_ite (fun _ => zp_bind (zp_mono (p_prepareD pj fd jd jt) fun r ⟨f, _, j, g⟩ => zp_some ?_)) fun q => absurd (by rw [l1]; decide) q
  have e : ∀ q, q ≠ 82 → (q < 76 ∨ 80 < q) → (zx_up r 82 0 0) q = σ q := fun q a b => by rw [zu_other a, f q b]
  have pu : PJ (zx_up r 82 0 0) c2 len := pj.of (fun q hq => e q (by omega) (by omega)) (by rw [zx_up_same, zu_ne (by decide), f 82 (by decide)])
  have fu : FLD (zx_up r 82 0 0) := ⟨fd.1.of (by rw [e 4 (by decide) (by decide)]) (e 5 (by decide) (by decide)) (e 7 (by decide) (by decide)) (e 8 (by decide) (by decide)), fd.2.1.of (by rw [e 4 (by decide) (by decide)]) (by rw [e 4 (by decide) (by decide)]) (e 88 (by decide) (by decide)), by rw [e 4 (by decide) (by decide)]; exact fd.2.2⟩
  unfold zf_M_doubts
  dsimp only
  refine zp_ite (fun q => ?_) fun _ => zp_bind (zp_mono (p_doubtAt pu fu (x1 := 0) (x2 := 1) (Q := fun R m x => x = Int32.ofNat (m + R.length)) (fun m => if_neg (by decide)) (fun R m z x _ h => show x = Int32.ofNat (m + (z :: R).length) from by rw [show x = Int32.ofNat (m + 1 + R.length) from h, List.length_cons, show m + 1 + R.length = m + (R.length + 1) by omega]) (fun R m z e => absurd e (by decide))) fun x hx => zp_some ?_)
  · rw [f 82 (by decide), l2] at q
    exact absurd q (by decide)
  · have hx : x = Int32.ofNat (0 + (all (DBT (zx_up r 82 0 0) c2 len) 0 96).length) := hx
    dsimp only
    rw [hx, (j g).1, Nat.zero_add]
    rw [DBT.of (σ := r) (r := zx_up r 82 0 0) (zu_other (by decide)) fun q hq => zu_other (by omega)]
theorem p_doubtW {N : Nat} {σ : zS} {c2 : Nat} {len : Nat → Nat} {x1 x2 : Int32} (pj : PJ σ c2 len) (fd : FLD σ) (l1 : σ 2 13 = 1) (l2 : σ 82 21 = 1) (jd : JDN σ c2 len) (jt : JDD σ c2 len) : zp (zf_X_doubt N σ x1 x2) (fun r => zp (zf_M_doubt N r.2 x1 x2) (fun s => r.1 = s.1)) := by
  unfold zf_X_doubt
  refine zp_ite (fun _ => zp_bind (zp_mono (p_prepareD pj fd jd jt) fun r ⟨f, _, j, g⟩ => ?_)) fun q => absurd (by rw [l1]; decide) q
  have e : ∀ q, q ≠ 82 → (q < 76 ∨ 80 < q) → (zx_up r 82 0 0) q = σ q := fun q a b => by rw [zu_other a, f q b]
  have pu : PJ (zx_up r 82 0 0) c2 len := pj.of (fun q hq => e q (by omega) (by omega)) (by rw [zx_up_same, zu_ne (by decide), f 82 (by decide)])
  have fu : FLD (zx_up r 82 0 0) := ⟨fd.1.of (by rw [e 4 (by decide) (by decide)]) (e 5 (by decide) (by decide)) (e 7 (by decide) (by decide)) (e 8 (by decide) (by decide)), fd.2.1.of (by rw [e 4 (by decide) (by decide)]) (by rw [e 4 (by decide) (by decide)]) (e 88 (by decide) (by decide)), by rw [e 4 (by decide) (by decide)]; exact fd.2.2⟩
  have dd : DBT (zx_up r 82 0 0) c2 len = DBT r c2 len := DBT.of (zu_other (by decide)) fun q hq => zu_other (by omega)
  obtain ⟨s1, s2⟩ := j g
  have top : (all (DBT r c2 len) 0 96).length ≤ 3456 := by
    have := all_len (P := DBT r c2 len) 96 0
    rw [bnd_all] at this
    exact this
  have fnd : zp (zf_M_doubtAt N (zx_up r 82 0 0) x1 0) (fun x => FND (all (DBT r c2 len) 0 96) 0 x1 x) := by
    rw [← dd]
    exact p_doubtAt pu fu (x1 := x1) (x2 := 0) (Q := fun R m x => FND R m x1 x) (fun m => by show FND [] m x1 (if (0 : Int32) = 0 then -1 else Int32.ofNat m); rw [if_pos rfl]; exact ⟨fun i y e => by simp at e, fun _ => rfl⟩) (fun R m z x ne h => FND.cons h fun k => ne rfl k.symm) (fun R m z _ k hm => FND.hit hm k.symm)
  have get : ∀ x, FND (all (DBT r c2 len) 0 96) 0 x1 x → zp (zf_Numbers_get_c8 r x1) (fun y => y = x) := fun x hx => by
    unfold zf_Numbers_get_c8 zb_Numbers_get_c8_21
    rw [s1]
    have no : ¬ (0 ≤ x1 ∧ x1 < Int32.ofNat (all (DBT r c2 len) 0 96).length) → x = -1 := fun h => hx.2 fun i hi k => h (by
      rw [k, Nat.zero_add]
      exact ⟨(zo_le (k := 0) (j := i) (by omega) (by omega)).mpr (Nat.zero_le _), (zo_lt (by omega) (by omega)).mpr hi⟩)
    refine zp_ite (fun k => zp_some (no fun w => absurd w.1 (Int32.not_le.mpr k)).symm) fun k0 => zp_ite (fun k => zp_some (no fun w => absurd w.2 (Int32.not_lt.mpr k)).symm) fun k1 => ?_
    have p0 := Int32.not_lt.mp k0
    have xt : Int32.ofNat x1.toNatClampNeg = x1 := zo_mk p0
    have n := z_nat p0
    have b := Int32.lt_iff_toInt_lt.mp (Int32.not_le.mp k1)
    rw [zo_ti (by omega)] at b
    have hi : x1.toNatClampNeg < (all (DBT r c2 len) 0 96).length := by omega
    refine zp_ite (fun _ => zp_chk fun _ => zp_some ?_) fun k => absurd (Int32.lt_iff_toInt_lt.mpr (by rw [show (3456 : Int32).toInt = 3456 from rfl]; omega)) k
    have ge := List.getElem?_eq_getElem hi
    rw [s2 _ _ ge]
    exact (hx.1 _ _ ge (by rw [Nat.zero_add, xt])).symm
  intro a ha
  obtain ⟨y, ey, ha⟩ := Option.bind_eq_some_iff.mp ha
  obtain ⟨p, ep, ha⟩ := Option.bind_eq_some_iff.mp ha
  injection ha with ha
  subst ha
  intro b hb
  unfold zf_M_doubt at hb
  dsimp only at hb ⊢
  have l2' : ¬ r 82 21 = 0 := by rw [f 82 (by decide), l2]; decide
  rw [if_pos l2'] at hb
  obtain ⟨x, ex, hb⟩ := Option.bind_eq_some_iff.mp hb
  have hx := fnd x ex
  have hy := get x hx y ey
  subst hy
  by_cases c : y = -1
  · rw [if_neg (fun k => k c)] at hb
    injection hb with hb
    rw [← hb]
    unfold zf_Program_partOfPair at ep
    rw [c, if_pos (by decide)] at ep
    injection ep with ep
    exact ep.symm
  · rw [if_pos c] at hb
    obtain ⟨z, ez, hb⟩ := Option.bind_eq_some_iff.mp hb
    injection hb with hb
    rw [← hb]
    dsimp only
    have ex : ∃ i, i < (all (DBT r c2 len) 0 96).length ∧ x1 = Int32.ofNat (0 + i) := Classical.byContradiction fun k => c (hx.2 fun i hi e => k ⟨i, hi, e⟩)
    obtain ⟨i, hi, e1⟩ := ex
    have ge := List.getElem?_eq_getElem hi
    have yv := hx.1 _ _ ge e1
    obtain ⟨v, w, dvw, w96, ec⟩ := all_mem _ _ _ (List.getElem_mem hi)
    rw [ec] at yv
    have pr : PJ r c2 len := pj.of (fun q hq => f q (by omega)) (by rw [f 82 (by decide)])
    have fr : FLD r := ⟨fd.1.of (by rw [f 4 (by decide)]) (f 5 (by decide)) (f 7 (by decide)) (f 8 (by decide)), fd.2.1.of (by rw [f 4 (by decide)]) (by rw [f 4 (by decide)]) (f 88 (by decide)), by rw [f 4 (by decide)]; exact fd.2.2⟩
    have v96 := (slv_rows pr dvw.1).2
    have q96 : Int32.ofNat (96 * v + w) / 96 = Int32.ofNat v := by
      apply Int32.toInt_inj.mp
      have k : (96 : Int32).toInt = 96 := rfl
      rw [Int32.toInt_div_of_ne_right _ _ (by decide), zo_ti (by omega), zo_ti (by omega), k, Int.tdiv_eq_ediv_of_nonneg (by omega)]
      omega
    have e93 : σ 93 v = r 8 v := by
      rw [← f 93 (by decide)]
      exact (slv_fld pr fr dvw.1 dvw.2.2.1.1).2.2.2.2
    unfold zf_Program_partOfPair at ep
    unfold zf_M_ofPair at ez
    rw [yv, q96, zo_n (m := v) (by omega)] at ep
    rw [yv, q96, zo_n (m := v) (by omega), e 93 (by decide) (by decide), e93] at ez
    rw [if_neg (fun k => by have := (zo_lt (k := 96 * v + w) (j := 0) (by omega) (by omega)).mp k; omega), if_pos (show Int32.ofNat v < 96 from (zo_lt (k := v) (j := 96) (by omega) (by omega)).mpr v96)] at ep
    by_cases a0 : x2 = 0
    · rw [if_pos a0] at ep ez; exact (Option.some.inj (ep.symm.trans ez))
    rw [if_neg a0] at ep ez
    by_cases a1 : x2 = 1
    · rw [if_pos a1] at ep ez; exact (Option.some.inj (ep.symm.trans ez))
    rw [if_neg a1] at ep ez
    by_cases a2 : x2 = 2
    · rw [if_pos a2] at ep ez; exact (Option.some.inj (ep.symm.trans ez))
    rw [if_neg a2] at ep ez
    by_cases a3 : x2 = 3
    · rw [if_pos a3] at ep ez; exact (Option.some.inj (ep.symm.trans ez))
    rw [if_neg a3] at ep ez
    by_cases a4 : x2 = 4
    · rw [if_pos a4, if_pos (show 0 ≤ Int32.ofNat v ∧ Int32.ofNat v < 97 from ⟨(zo_le (k := 0) (j := v) (by omega) (by omega)).mpr (Nat.zero_le _), (zo_lt (k := v) (j := 97) (by omega) (by omega)).mpr (by omega)⟩)] at ep
      rw [if_pos a4, if_pos (show 0 ≤ Int32.ofNat v ∧ Int32.ofNat v < 96 from ⟨(zo_le (k := 0) (j := v) (by omega) (by omega)).mpr (Nat.zero_le _), (zo_lt (k := v) (j := 96) (by omega) (by omega)).mpr (by omega)⟩)] at ez
      exact (Option.some.inj (ep.symm.trans ez))
    · rw [if_neg a4] at ep ez; exact (Option.some.inj (ep.symm.trans ez))
