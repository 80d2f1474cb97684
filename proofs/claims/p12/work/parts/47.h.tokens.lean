-- both answer alike
set_option maxRecDepth 2000
def zp {α : Type} (o : Option α) (Q : α → Prop) : Prop := ∀ a, o = some a → Q a
theorem zp_bind {α β : Type} {o : Option α} {f : α → Option β} {Q : β → Prop} (h : zp o (fun a => zp (f a) Q)) : zp (o.bind f) Q := by
  intro b e
  cases o with
  | none => cases e
  | some a => exact h a rfl b e
theorem zp_ite {α : Type} {c : Prop} [Decidable c] {x y : Option α} {Q : α → Prop} (h1 : c → zp x Q) (h2 : ¬ c → zp y Q) : zp (if c then x else y) Q := by
  by_cases h : c
  · rw [if_pos h]; exact h1 h
  · rw [if_neg h]; exact h2 h
theorem zp_chk {α : Type} {c : Prop} [Decidable c] {x : Option α} {Q : α → Prop} (h1 : c → zp x Q) : zp (if c then x else none) Q := by
  by_cases h : c
  · rw [if_pos h]; exact h1 h
  · rw [if_neg h]; intro a e; cases e
theorem zp_some {α : Type} {a : α} {Q : α → Prop} (h : Q a) : zp (some a) Q := by
  intro b e
  cases e
  exact h
theorem zp_none {α : Type} {Q : α → Prop} : zp (none : Option α) Q := by
  intro b e
  cases e
theorem zp_mono {α : Type} {o : Option α} {P Q : α → Prop} (h : zp o P) (k : ∀ a, P a → Q a) : zp o Q := fun a e => k a (h a e)
theorem zp_and {α : Type} {o : Option α} {P Q : α → Prop} (h : zp o P) (k : zp o Q) : zp o (fun a => P a ∧ Q a) := fun a e => ⟨h a e, k a e⟩
theorem zp_q {α : Type} {o : Option α} {P : α → Prop} (h : zq o P) : zp o P := by
  obtain ⟨r, e, p⟩ := zq_get h
  intro a e'
  rw [e] at e'
  cases e'
  exact p
def bt (b : Nat → Int32) (n x : Int32) : Int32 := if x < n then b x.toNatClampNeg &&& 255 else 0
abbrev isBl (c : Int32) : Prop := c = 32 ∨ c = 10
abbrev isLt (c : Int32) : Prop := 97 ≤ c ∧ c ≤ 122
abbrev isDg (c : Int32) : Prop := 48 ≤ c ∧ c ≤ 57
abbrev isSg (c : Int32) : Prop := c = 43 ∨ c = 45 ∨ c = 59 ∨ c = 60 ∨ c = 61 ∨ c = 62 ∨ c = 123 ∨ c = 125
def skipTo (b : Nat → Int32) (n i p : Int32) : Prop := i ≤ p ∧ (∀ j, i ≤ j → j < p → j < n ∧ isBl (bt b n j)) ∧ ¬ (p < n ∧ isBl (bt b n p))
def wordTo (b : Nat → Int32) (n p e : Int32) : Prop := p ≤ e ∧ (∀ j, p ≤ j → j < e → j < n ∧ (isLt (bt b n j) ∨ isDg (bt b n j))) ∧ ¬ (e < n ∧ (isLt (bt b n e) ∨ isDg (bt b n e)))
theorem skipTo_one {b : Nat → Int32} {n i p q : Int32} (h1 : skipTo b n i p) (h2 : skipTo b n i q) : p = q := by
  obtain ⟨a1, a2, a3⟩ := h1
  obtain ⟨b1, b2, b3⟩ := h2
  by_cases c : p < q
  · exact absurd (b2 p a1 c) a3
  · by_cases d : q < p
    · exact absurd (a2 q b1 d) b3
    · exact Int32.le_antisymm (Int32.not_lt.mp d) (Int32.not_lt.mp c)
theorem wordTo_one {b : Nat → Int32} {n i p q : Int32} (h1 : wordTo b n i p) (h2 : wordTo b n i q) : p = q := by
  obtain ⟨a1, a2, a3⟩ := h1
  obtain ⟨b1, b2, b3⟩ := h2
  by_cases c : p < q
  · exact absurd (b2 p a1 c) a3
  · by_cases d : q < p
    · exact absurd (a2 q b1 d) b3
    · exact Int32.le_antisymm (Int32.not_lt.mp d) (Int32.not_lt.mp c)
def pkw (b : Nat → Int32) (n p : Int32) : Nat → Int64
  | 0 => 0
  | m + 1 => (zJ_lshl (pkw b n p m) 8) ||| (bt b n (p + Int32.ofNat m)).toInt64
def rsv (w : Int64) : Int32 :=
  if w = 439854918756 then 300 else if w = 1869636974 then 301 else if w = 1819239275 then 302 else if w = 127991944667492 then 303 else if w = 26982 then 304 else if w = 1701606245 then 305 else if w = 512852847717 then 306 else if w = 2002872692 then 307 else if w = 2002873189 then 308 else if w = 6384748 then 309 else if w = 495873782388 then 310 else if w = 1785686382 then 311 else if w = 426953237355 then 312 else if w = 1937010544 then 313 else if w = 1936744814 then 314 else 3
def Tk (b : Nat → Int32) (n p e k : Int32) (w : Int64) : Prop :=
  (n ≤ p ∧ k = 0 ∧ e = p) ∨
  (p < n ∧ isLt (bt b n p) ∧ wordTo b n p e ∧ ((6 < e - p ∧ k = 1) ∨ (e - p ≤ 6 ∧ w = pkw b n p (e - p).toNatClampNeg ∧ k = rsv w))) ∨
  (p < n ∧ isDg (bt b n p) ∧ e = p + 1 ∧ w = (bt b n p - 48).toInt64 ∧ (((55 < bt b n p ∨ isLt (bt b n (p + 1)) ∨ isDg (bt b n (p + 1))) ∧ k = 1) ∨ (¬ (55 < bt b n p ∨ isLt (bt b n (p + 1)) ∨ isDg (bt b n (p + 1))) ∧ k = 2))) ∨
  (p < n ∧ ¬ isLt (bt b n p) ∧ ¬ isDg (bt b n p) ∧ (((bt b n p = 61 ∨ bt b n p = 33) ∧ bt b n (p + 1) = 61 ∧ e = p + 2 ∧ ((bt b n p = 61 ∧ k = 256) ∨ (bt b n p = 33 ∧ k = 257))) ∨
    (¬ ((bt b n p = 61 ∨ bt b n p = 33) ∧ bt b n (p + 1) = 61) ∧ e = p + 1 ∧ ((isSg (bt b n p) ∧ k = bt b n p) ∨ (¬ isSg (bt b n p) ∧ k = 1)))))
def mkd (k : Int32) (w : Int64) (tk tv : Int32) : Prop :=
  (k = 0 ∧ tk = 0) ∨ (k = 1 ∧ tk = 1) ∨ (k = 2 ∧ tk = 3 ∧ w = tv.toInt64 ∧ 0 ≤ tv ∧ tv ≤ 7) ∨ (k = 3 ∧ tk = 2) ∨ (300 ≤ k ∧ k ≤ 314 ∧ tk = 5 ∧ tv = k - 299) ∨ (k = 256 ∧ tk = 4 ∧ tv = 1000) ∨ (k = 257 ∧ tk = 4 ∧ tv = 1001) ∨ (isSg k ∧ tk = 4 ∧ tv = k)
theorem p_M_byteAt {σ : zS} {x : Int32} : zp (zf_M_byteAt σ x) (fun r => r = bt (σ 84) (σ 82 4) x) := by
  unfold zf_M_byteAt bt
  refine zp_ite (fun c => zp_some ?_) fun c => zp_chk fun d => zp_some ?_
  · rw [if_neg (Int32.not_lt.mpr c)]
  · rw [if_pos (Int32.not_le.mp c)]
theorem p_M_in {σ : zS} {x y z : Int32} : zp (zf_M_in σ x y z) (fun r => r = if y ≤ x ∧ x ≤ z then 1 else 0) := by
  unfold zf_M_in
  refine zp_ite (fun c => zp_some ?_) fun c => zp_ite (fun d => zp_some ?_) fun d => zp_some ?_
  · rw [if_neg (fun h => Int32.not_lt.mpr h.1 c)]
  · rw [if_neg (fun h => Int32.not_lt.mpr h.2 d)]
  · rw [if_pos ⟨Int32.not_lt.mp c, Int32.not_lt.mp d⟩]
theorem p_M_isLetter {σ : zS} {x : Int32} : zp (zf_M_isLetter σ x) (fun r => r = if isLt x then 1 else 0) := by
  unfold zf_M_isLetter
  exact zp_bind (zp_mono p_M_in fun r h => zp_chk fun _ => zp_some h)
theorem p_M_isDigit {σ : zS} {x : Int32} : zp (zf_M_isDigit σ x) (fun r => r = if isDg x then 1 else 0) := by
  unfold zf_M_isDigit
  exact zp_bind (zp_mono p_M_in fun r h => zp_chk fun _ => zp_some h)
theorem p_M_wordHere {N : Nat} {σ : zS} (h6 : 0 ≤ σ 82 6 ∧ σ 82 6 ≤ 6) : ∀ (n : Nat) (w : Int64) (v : Int32), 0 ≤ v → v ≤ σ 82 6 → w = pkw (σ 84) (σ 82 4) (σ 82 5) v.toNatClampNeg → zp (zb_M_wordHere_4 N n σ w v) (fun r => r = if rsv (pkw (σ 84) (σ 82 4) (σ 82 5) (σ 82 6).toNatClampNeg) = 3 then 0 else rsv (pkw (σ 84) (σ 82 4) (σ 82 5) (σ 82 6).toNatClampNeg) - 299) := by
  intro n
  induction n with
  | zero => intro _ _ _ _ _; exact zp_none
  | succ n ih =>
    intro w v h0 h1 hw
    rw [zb_M_wordHere_4]
    refine zp_ite (fun c => ?_) fun c => ?_
    · have e : v = σ 82 6 := Int32.le_antisymm h1 c
      rw [← e, ← hw]
      unfold rsv
      iterate 15
        refine zp_ite (fun c => ?_) fun c => ?_
        rotate_left
        · rw [Classical.not_not.mp c]
          exact zp_some (by decide)
        rw [if_neg c]
      exact zp_some rfl
    · refine zp_bind (zp_mono p_M_byteAt fun r hr => ?_)
      have vb : v < 6 := by have := h6.2; grind
      have e1 : (v + 1).toNatClampNeg = v.toNatClampNeg + 1 := by
        have k1 : (1 : Int32).toInt = 1 := rfl
        have a := z_nat h0
        have v6 : v.toInt < 6 := Int32.lt_iff_toInt_lt.mp vb
        have s := z_ti_add (a := v) (b := 1) (by omega) (by omega)
        have p : 0 ≤ v + 1 := Int32.le_iff_toInt_le.mpr (by rw [s]; show (0 : Int) ≤ _; omega)
        have b := z_nat p
        omega
      refine ih _ (v + 1) (by grind) (by grind) ?_
      rw [e1, pkw, ← hw, hr]
      have e2 : Int32.ofNat v.toNatClampNeg = v := by
        apply Int32.toInt_inj.mp
        have a := z_nat h0
        have v6 : v.toInt < 6 := Int32.lt_iff_toInt_lt.mp vb
        rw [Int32.toInt_ofNat_of_lt (by omega)]
        omega
      rw [e2]
theorem bt_out {b : Nat → Int32} {n x : Int32} (h : ¬ x < n) : bt b n x = 0 := by
  unfold bt
  rw [if_neg h]
theorem skip_le {b : Nat → Int32} {n i p : Int32} (h : skipTo b n i p) (hi : i ≤ n) : p ≤ n := by
  obtain ⟨a1, a2, a3⟩ := h
  by_cases c : n < p
  · exact absurd (a2 n hi c).1 Int32.lt_irrefl
  · exact Int32.not_lt.mp c
theorem word_le {b : Nat → Int32} {n i p : Int32} (h : wordTo b n i p) (hi : i ≤ n) : p ≤ n := by
  obtain ⟨a1, a2, a3⟩ := h
  by_cases c : n < p
  · exact absurd (a2 n hi c).1 Int32.lt_irrefl
  · exact Int32.not_lt.mp c
abbrev rsvR (x : Int32) : Prop := x = 3 ∨ (300 ≤ x ∧ x ≤ 314)
theorem ite_R {c : Prop} [Decidable c] {x y : Int32} (h1 : rsvR x) (h2 : rsvR y) : rsvR (if c then x else y) := by
  by_cases h : c
  · rw [if_pos h]; exact h1
  · rw [if_neg h]; exact h2
theorem rsv_rng (w : Int64) : rsvR (rsv w) := by
  unfold rsv
  iterate 15
    refine ite_R (by decide) ?_
  decide
theorem p_M_skip {N : Nat} {σ : zS} {i : Int32} {Q : zS → Prop} (hn : σ 82 4 ≤ 1500) (hk : ∀ p, skipTo (σ 84) (σ 82 4) i p → zp (zb_M_next_44 N σ p) Q) : ∀ (n : Nat) (v : Int32), i ≤ v → (∀ j, i ≤ j → j < v → j < σ 82 4 ∧ isBl (bt (σ 84) (σ 82 4) j)) → zp (zb_M_next_10 N n σ v) Q := by
  intro n
  induction n with
  | zero => intro _ _ _; exact zp_none
  | succ n ih =>
    intro v hv hb
    rw [zb_M_next_10]
    have more : v < σ 82 4 → isBl (bt (σ 84) (σ 82 4) v) → zp (zb_M_next_10 N n σ (v + 1)) Q := by
      intro a b
      refine ih (v + 1) (by grind) fun j h1 h2 => ?_
      by_cases c : j < v
      · exact hb j h1 c
      · have : j = v := by grind
        rw [this]
        exact ⟨a, b⟩
    refine zp_ite (fun c => hk v ⟨hv, hb, fun h => Int32.not_lt.mpr c h.1⟩) fun c => ?_
    have c' := Int32.not_le.mp c
    refine zp_bind (zp_mono p_M_byteAt fun r1 h1 => zp_ite (fun d => more c' (Or.inl (h1 ▸ d))) fun d => ?_)
    refine zp_bind (zp_mono p_M_byteAt fun r2 h2 => zp_ite (fun e => hk v ⟨hv, hb, fun h => ?_⟩) fun e => more c' (Or.inr (h2 ▸ Classical.not_not.mp e)))
    rcases h.2 with h | h
    · exact d (h1.trans h)
    · exact e (h2.trans h)
def NX0 (σ r : zS) : Prop := (∀ q, q ≠ 82 → r q = σ q) ∧ (∀ i, i ≠ 5 → i ≠ 6 → i ≠ 7 → i ≠ 8 → r 82 i = σ 82 i)
theorem p_M_end161 {N : Nat} {σ ρ : zS} {p s0 : Int32} (fr : NX0 σ ρ) (h5 : ρ 82 5 = p) (h8 : ρ 82 8 = 0) (h6 : 1 ≤ ρ 82 6 ∧ ρ 82 6 ≤ 1500) (hp : 0 ≤ p ∧ p < σ 82 4 ∧ σ 82 4 ≤ 1500) (hl : isLt (bt (σ 84) (σ 82 4) p)) (hw : wordTo (σ 84) (σ 82 4) p (p + ρ 82 6)) (hs : (ρ 82 6 ≤ 6 ∧ s0 = 2) ∨ (6 < ρ 82 6 ∧ s0 = 1)) : zp (zb_M_next_161 N ρ s0) (fun r => NX0 σ r ∧ r 82 5 = p ∧ ∃ k w, Tk (σ 84) (σ 82 4) p (p + r 82 6) k w ∧ mkd k w (r 82 7) (r 82 8)) := by
  have f2 : ∀ i v, i = 6 ∨ i = 7 ∨ i = 8 → ∀ ρ, NX0 σ ρ → NX0 σ (zx_up ρ 82 i v) := by
    intro i v hi ρ h
    exact ⟨fun q hq => by rw [zu_other hq]; exact h.1 q hq, fun j a b c d => by rw [zx_up_same, zu_ne (by omega)]; exact h.2 j a b c d⟩
  have sb : p + ρ 82 6 - p = ρ 82 6 := by grind
  unfold zb_M_next_161
  refine zp_ite (fun c => zp_some ?_) fun c => ?_
  · obtain ⟨a, b⟩ := hs.resolve_left (fun h => c h.2)
    refine ⟨f2 7 _ (by simp) _ fr, by rw [zx_up_same, zu_ne (by decide)]; exact h5, 1, 0, Or.inr (Or.inl ⟨hp.2.1, hl, by rw [zx_up_same, zu_ne (by decide)]; exact hw, Or.inl ⟨by rw [zx_up_same, zu_ne (by decide), sb]; exact a, rfl⟩⟩), Or.inr (Or.inl ⟨rfl, by rw [zx_up_same, zu_eq]; exact b⟩)⟩
  · have c := Classical.not_not.mp c
    obtain ⟨a, b⟩ := hs.resolve_right (fun h => by rw [c] at h; exact absurd h.2 (by decide))
    have word : ∀ x : zS, NX0 σ x → x 82 5 = p → x 82 6 = ρ 82 6 → zp (zf_M_wordHere N x) (fun r => r = if rsv (pkw (σ 84) (σ 82 4) p (ρ 82 6).toNatClampNeg) = 3 then 0 else rsv (pkw (σ 84) (σ 82 4) p (ρ 82 6).toNatClampNeg) - 299) := by
      intro x hx x5 x6
      have := p_M_wordHere (N := N) (σ := x) (by rw [x6]; exact ⟨Int32.le_trans (by decide) h6.1, a⟩) N 0 0 (by decide) (by rw [x6]; exact Int32.le_trans (by decide) h6.1) rfl
      rw [x5, x6, hx.1 84 (by decide), hx.2 4 (by decide) (by decide) (by decide) (by decide)] at this
      exact this
    have rs : rsv (pkw (σ 84) (σ 82 4) p (ρ 82 6).toNatClampNeg) = 3 ∨ (300 ≤ rsv (pkw (σ 84) (σ 82 4) p (ρ 82 6).toNatClampNeg) ∧ rsv (pkw (σ 84) (σ 82 4) p (ρ 82 6).toNatClampNeg) ≤ 314) := by
      exact rsv_rng _
    generalize hW : rsv (pkw (σ 84) (σ 82 4) p (ρ 82 6).toNatClampNeg) = W at word rs
    have tk : ∀ r6, r6 = ρ 82 6 → Tk (σ 84) (σ 82 4) p (p + r6) W (pkw (σ 84) (σ 82 4) p (ρ 82 6).toNatClampNeg) := by
      intro r6 e
      rw [e]
      exact Or.inr (Or.inl ⟨hp.2.1, hl, hw, Or.inr ⟨by rw [sb]; exact a, by rw [sb], hW.symm⟩⟩)
    refine zp_bind (zp_mono (word _ (f2 7 _ (by simp) _ fr) (by rw [zx_up_same, zu_ne (by decide)]; exact h5) (by rw [zx_up_same, zu_ne (by decide)])) fun r1 h1 => zp_ite (fun d => zp_some ?_) fun d => ?_)
    · have w3 : W = 3 := by
        rcases rs with h | h
        · exact h
        · exfalso
          rw [h1, if_neg (by intro q; rw [q] at h; exact absurd h.1 (by decide))] at d
          grind
      refine ⟨f2 7 _ (by simp) _ fr, by rw [zx_up_same, zu_ne (by decide)]; exact h5, W, _, tk _ (by rw [zx_up_same, zu_ne (by decide)]), Or.inr (Or.inr (Or.inr (Or.inl ⟨w3, by rw [zx_up_same, zu_eq]; exact b⟩)))⟩
    · have w3 : 300 ≤ W ∧ W ≤ 314 := by
        rcases rs with h | h
        · exfalso
          rw [h1, if_pos h] at d
          exact d (by decide)
        · exact h
      have n3 : ¬ W = 3 := by intro q; rw [q] at w3; exact absurd w3.1 (by decide)
      refine zp_bind (zp_mono (word _ (f2 7 _ (by simp) _ (f2 7 _ (by simp) _ fr)) (by rw [zx_up_same, zu_ne (by decide), zx_up_same, zu_ne (by decide)]; exact h5) (by rw [zx_up_same, zu_ne (by decide), zx_up_same, zu_ne (by decide)])) fun r2 h2 => zp_some ?_)
      rw [if_neg n3] at h2
      refine ⟨f2 8 _ (by simp) _ (f2 7 _ (by simp) _ (f2 7 _ (by simp) _ fr)), by rw [zx_up_same, zu_ne (by decide), zx_up_same, zu_ne (by decide), zx_up_same, zu_ne (by decide)]; exact h5, W, _, tk _ (by rw [zx_up_same, zu_ne (by decide), zx_up_same, zu_ne (by decide), zx_up_same, zu_ne (by decide)]), Or.inr (Or.inr (Or.inr (Or.inr (Or.inl ⟨w3.1, w3.2, by rw [zx_up_same, zu_ne (by decide), zx_up_same, zu_eq], by rw [zx_up_same, zu_eq]; exact h2⟩))))⟩
abbrev NXP (σ : zS) (p : Int32) (r : zS) : Prop := NX0 σ r ∧ r 82 5 = p ∧ ∃ k w, Tk (σ 84) (σ 82 4) p (p + r 82 6) k w ∧ mkd k w (r 82 7) (r 82 8)
theorem NX0.up {σ ρ : zS} {i : Nat} {v : Int32} (hi : i = 5 ∨ i = 6 ∨ i = 7 ∨ i = 8) (h : NX0 σ ρ) : NX0 σ (zx_up ρ 82 i v) :=
  ⟨fun q hq => by rw [zu_other hq]; exact h.1 q hq, fun j a b c d => by rw [zx_up_same, zu_ne (by omega)]; exact h.2 j a b c d⟩
theorem NX0.rfl {σ : zS} : NX0 σ σ := ⟨fun _ _ => Eq.refl _, fun _ _ _ _ _ => Eq.refl _⟩
theorem p_M_word {N : Nat} {σ : zS} {p : Int32} (hp : 0 ≤ p ∧ p < σ 82 4 ∧ σ 82 4 ≤ 1500) (hl : isLt (bt (σ 84) (σ 82 4) p)) : ∀ (n : Nat) (ρ : zS), NX0 σ ρ → ρ 82 5 = p → ρ 82 8 = 0 → 1 ≤ ρ 82 6 → p + ρ 82 6 ≤ σ 82 4 → ρ 82 6 ≤ 1500 → (∀ j, p ≤ j → j < p + ρ 82 6 → j < σ 82 4 ∧ (isLt (bt (σ 84) (σ 82 4) j) ∨ isDg (bt (σ 84) (σ 82 4) j))) → zp (zb_M_next_101 N n ρ p) (NXP σ p) := by
  intro n
  induction n with
  | zero => intro _ _ _ _ _ _ _ _; exact zp_none
  | succ n ih =>
    intro ρ fr h5 h8 h6 hb h15 hw
    rw [zb_M_next_101]
    have e84 : ρ 84 = σ 84 := fr.1 84 (by decide)
    have e4 : ρ 82 4 = σ 82 4 := fr.2 4 (by decide) (by decide) (by decide) (by decide)
    have more : (isLt (bt (σ 84) (σ 82 4) (p + ρ 82 6)) ∨ isDg (bt (σ 84) (σ 82 4) (p + ρ 82 6))) → zp (zb_M_next_101 N n (zx_up ρ 82 6 (ρ 82 6 + 1)) p) (NXP σ p) := by
      intro hc
      have lt : p + ρ 82 6 < σ 82 4 := by
        by_cases q : p + ρ 82 6 < σ 82 4
        · exact q
        · rw [bt_out q] at hc
          exact absurd hc (by decide)
      have k6 : (zx_up ρ 82 6 (ρ 82 6 + 1)) 82 6 = ρ 82 6 + 1 := by rw [zx_up_same, zu_eq]
      obtain ⟨p0, p1, p2⟩ := hp
      generalize ρ 82 6 = s at *
      refine ih _ (fr.up (by simp)) (by rw [zx_up_same, zu_ne (by decide)]; exact h5) (by rw [zx_up_same, zu_ne (by decide)]; exact h8) (by rw [k6]; clear ih hw fr; grind) (by rw [k6]; clear ih hw fr; grind) (by rw [k6]; clear ih hw fr; grind) ?_
      intro j j1 j2
      rw [k6] at j2
      by_cases q : j < p + s
      · exact hw j j1 q
      · have : j = p + s := by clear ih hw fr hc; grind
        rw [this]
        exact ⟨lt, hc⟩
    have fin : ¬ (isLt (bt (σ 84) (σ 82 4) (p + ρ 82 6)) ∨ isDg (bt (σ 84) (σ 82 4) (p + ρ 82 6))) → ∀ s0, ((ρ 82 6 ≤ 6 ∧ s0 = 2) ∨ (6 < ρ 82 6 ∧ s0 = 1)) → zp (zb_M_next_161 N ρ s0) (NXP σ p) := by
      intro hc s0 hs
      refine p_M_end161 fr h5 h8 ⟨h6, h15⟩ hp hl ⟨?_, hw, fun h => hc h.2⟩ hs
      obtain ⟨p0, p1, p2⟩ := hp
      generalize ρ 82 6 = s at *
      clear ih hw fr hc hs more
      grind
    refine zp_bind (zp_mono p_M_byteAt fun r1 h1 => zp_bind (zp_mono p_M_isLetter fun r2 h2 => ?_))
    rw [e84, e4] at h1
    refine zp_ite (fun c => more (Or.inl ?_)) fun c => ?_
    · rw [← h1]
      by_cases q : isLt r1
      · exact q
      · rw [if_neg q] at h2; exact absurd h2 c
    · have nl : ¬ isLt (bt (σ 84) (σ 82 4) (p + ρ 82 6)) := by
        rw [← h1]
        intro q
        rw [if_pos q] at h2
        rw [h2] at c
        exact c (by decide)
      refine zp_bind (zp_mono p_M_byteAt fun r3 h3 => zp_bind (zp_mono p_M_isDigit fun r4 h4 => ?_))
      rw [e84, e4] at h3
      refine zp_ite (fun d => ?_) fun d => more (Or.inr ?_)
      · have nd : ¬ isDg (bt (σ 84) (σ 82 4) (p + ρ 82 6)) := by
          rw [← h3]
          intro q
          rw [if_pos q] at h4
          rw [h4] at d
          exact absurd d (by decide)
        have nn : ¬ (isLt (bt (σ 84) (σ 82 4) (p + ρ 82 6)) ∨ isDg (bt (σ 84) (σ 82 4) (p + ρ 82 6))) := fun h => h.elim nl nd
        exact zp_ite (fun e => fin nn 2 (Or.inl ⟨e, rfl⟩)) fun e => fin nn 1 (Or.inr ⟨Int32.not_le.mp e, rfl⟩)
      · rw [← h3]
        by_cases q : isDg r3
        · exact q
        · rw [if_neg q] at h4; exact absurd h4 d
theorem bt_rng {b : Nat → Int32} {n x : Int32} : 0 ≤ bt b n x ∧ bt b n x ≤ 255 := by
  unfold bt
  by_cases h : x < n
  · rw [if_pos h]; exact z_and _ _ (by decide)
  · rw [if_neg h]; decide
theorem p_M_next44 {N : Nat} {σ : zS} {p : Int32} (hp : 0 ≤ p ∧ σ 82 4 ≤ 1500) : zp (zb_M_next_44 N σ p) (NXP σ p) := by
  unfold zb_M_next_44
  generalize hX : zx_up (zx_up (zx_up σ 82 5 p) 82 6 1) 82 8 0 = X
  have fr : NX0 σ X := by rw [← hX]; exact ((NX0.rfl.up (by simp)).up (by simp)).up (by simp)
  have e84 : X 84 = σ 84 := fr.1 84 (by decide)
  have e4 : X 82 4 = σ 82 4 := fr.2 4 (by decide) (by decide) (by decide) (by decide)
  have e5 : X 82 5 = p := by rw [← hX, zx_up_same, zu_ne (by decide), zx_up_same, zu_ne (by decide), zx_up_same, zu_eq]
  have e6 : X 82 6 = 1 := by rw [← hX, zx_up_same, zu_ne (by decide), zx_up_same, zu_eq]
  have e8 : X 82 8 = 0 := by rw [← hX, zx_up_same, zu_eq]
  clear hX
  have u : ∀ (ρ : zS) i j v, i ≠ j → (zx_up ρ 82 i v) 82 j = ρ 82 j := fun ρ i j v h => by rw [zx_up_same, zu_ne (Ne.symm h)]
  have v : ∀ (ρ : zS) i v, (zx_up ρ 82 i v) 82 i = v := fun ρ i v => by rw [zx_up_same, zu_eq]
  refine zp_bind (zp_mono p_M_byteAt fun r2 h2 => zp_bind (zp_mono p_M_byteAt fun r3 h3 => ?_))
  rw [e84, e4] at h2 h3
  refine zp_ite (fun c => ?_) fun c => zp_some ?_
  rotate_left
  · refine ⟨(fr.up (by simp)).up (by simp), by rw [u _ _ _ _ (by decide), u _ _ _ _ (by decide)]; exact e5, 0, 0, Or.inl ⟨Int32.not_lt.mp c, rfl, by rw [u _ _ _ _ (by decide), v, Int32.add_zero]⟩, Or.inl ⟨rfl, v _ _ _⟩⟩
  refine zp_bind (zp_mono p_M_isLetter fun r5 h5 => zp_ite (fun d => ?_) fun d => ?_)
  rotate_left
  · have hl : isLt (bt (σ 84) (σ 82 4) p) := by
      rw [← h2]
      by_cases q : isLt r2
      · exact q
      · rw [if_neg q] at h5; exact absurd h5 d
    refine p_M_word ⟨hp.1, c, hp.2⟩ hl N X fr e5 e8 (by rw [e6]; decide) (by rw [e6]; have := hp.2; have := hp.1; generalize σ 82 4 = L at *; clear h2 h3 hl fr; grind) (by rw [e6]; decide) ?_
    intro j j1 j2
    have : j = p := by
      rw [e6] at j2
      have := hp.2; have := hp.1
      generalize σ 82 4 = L at *
      clear h2 h3 hl fr
      grind
    rw [this]
    exact ⟨c, Or.inl hl⟩
  have nl : ¬ isLt (bt (σ 84) (σ 82 4) p) := by
    rw [← h2]
    intro q
    rw [if_pos q] at h5
    rw [h5] at d
    exact absurd d (by decide)
  refine zp_bind (zp_mono p_M_isDigit fun r7 h7 => zp_ite (fun d2 => ?_) fun d2 => ?_)
  ·
    have nd : ¬ isDg (bt (σ 84) (σ 82 4) p) := by
      rw [← h2]
      intro q
      rw [if_pos q] at h7
      rw [h7] at d2
      exact absurd d2 (by decide)
    have one : ¬ ((r2 = 61 ∨ r2 = 33) ∧ r3 = 61) → zp (zb_M_next_295 N X r2) (NXP σ p) := by
      intro no
      have ends : ∀ s0, ((isSg r2 ∧ s0 = 1) ∨ (¬ isSg r2 ∧ s0 = 0)) → zp (zb_M_next_348 N X r2 s0) (NXP σ p) := by
        intro s0 hs
        unfold zb_M_next_348 zb_M_next_361
        refine zp_ite (fun a => zp_some ?_) fun a => zp_some ?_
        · have ns := hs.resolve_left (fun h => by rw [h.2] at a; exact absurd a (by decide))
          refine ⟨(fr.up (by simp)).up (by simp), by rw [u _ _ _ _ (by decide), u _ _ _ _ (by decide)]; exact e5, 1, 0, Or.inr (Or.inr (Or.inr ⟨c, nl, nd, Or.inr ⟨by rw [← h2, ← h3]; exact no, by rw [u _ _ _ _ (by decide), u _ _ _ _ (by decide), e6], Or.inr ⟨by rw [← h2]; exact ns.1, rfl⟩⟩⟩)), Or.inr (Or.inl ⟨rfl, by rw [u _ _ _ _ (by decide)]; exact v _ _ _⟩)⟩
        · have ns := hs.resolve_right (fun h => a h.2)
          refine ⟨(fr.up (by simp)).up (by simp), by rw [u _ _ _ _ (by decide), u _ _ _ _ (by decide)]; exact e5, r2, 0, Or.inr (Or.inr (Or.inr ⟨c, nl, nd, Or.inr ⟨by rw [← h2, ← h3]; exact no, by rw [u _ _ _ _ (by decide), u _ _ _ _ (by decide), e6], Or.inl ⟨by rw [← h2]; exact ns.1, h2⟩⟩⟩)), Or.inr (Or.inr (Or.inr (Or.inr (Or.inr (Or.inr (Or.inr ⟨ns.1, by rw [u _ _ _ _ (by decide)]; exact v _ _ _, v _ _ _⟩))))))⟩
      unfold zb_M_next_295 zb_M_next_343
      have yes : isSg r2 → zp (zb_M_next_348 N X r2 1) (NXP σ p) := fun h => ends 1 (Or.inl ⟨h, rfl⟩)
      refine zp_ite (fun a => yes (by rw [a]; decide)) fun a1 => zp_ite (fun a => yes (by rw [a]; decide)) fun a2 => zp_ite (fun a => yes (by rw [a]; decide)) fun a3 => zp_ite (fun a => yes (by rw [a]; decide)) fun a4 => zp_ite (fun a => yes (by rw [a]; decide)) fun a5 => zp_ite (fun a => yes (by rw [a]; decide)) fun a6 => zp_ite (fun a => yes (by rw [a]; decide)) fun a7 => zp_ite (fun a8 => ends 0 (Or.inr ⟨?_, rfl⟩)) fun a => yes (by rw [Classical.not_not.mp a]; decide)
      rintro (h | h | h | h | h | h | h | h) <;> contradiction
    have two : (r2 = 61 ∨ r2 = 33) → zp (zb_M_next_257 N X r2 r3) (NXP σ p) := by
      intro h
      unfold zb_M_next_257 zb_M_next_289
      refine zp_ite (fun a => one (fun q => a q.2)) fun a => ?_
      have a := Classical.not_not.mp a
      refine zp_ite (fun b => zp_some ?_) fun b => zp_some ?_
      · have b' := h.resolve_left b
        refine ⟨((fr.up (by simp)).up (by simp)).up (by simp), by rw [u _ _ _ _ (by decide), u _ _ _ _ (by decide), u _ _ _ _ (by decide)]; exact e5, 257, 0, Or.inr (Or.inr (Or.inr ⟨c, nl, nd, Or.inl ⟨by rw [← h2]; exact h, by rw [← h3]; exact a, by rw [u _ _ _ _ (by decide), u _ _ _ _ (by decide), v], Or.inr ⟨by rw [← h2]; exact b', rfl⟩⟩⟩)), Or.inr (Or.inr (Or.inr (Or.inr (Or.inr (Or.inr (Or.inl ⟨rfl, by rw [u _ _ _ _ (by decide)]; exact v _ _ _, v _ _ _⟩))))))⟩
      · have b' := Classical.not_not.mp b
        refine ⟨((fr.up (by simp)).up (by simp)).up (by simp), by rw [u _ _ _ _ (by decide), u _ _ _ _ (by decide), u _ _ _ _ (by decide)]; exact e5, 256, 0, Or.inr (Or.inr (Or.inr ⟨c, nl, nd, Or.inl ⟨by rw [← h2]; exact h, by rw [← h3]; exact a, by rw [u _ _ _ _ (by decide), u _ _ _ _ (by decide), v], Or.inl ⟨by rw [← h2]; exact b', rfl⟩⟩⟩)), Or.inr (Or.inr (Or.inr (Or.inr (Or.inr (Or.inl ⟨rfl, by rw [u _ _ _ _ (by decide)]; exact v _ _ _, v _ _ _⟩)))))⟩
    exact zp_ite (fun a => two (Or.inl a)) fun a => zp_ite (fun b => one (fun q => q.1.elim a b)) fun b => two (Or.inr (Classical.not_not.mp b))
  ·
    have hd : isDg (bt (σ 84) (σ 82 4) p) := by
      rw [← h2]
      by_cases q : isDg r2
      · exact q
      · rw [if_neg q] at h7; exact absurd h7 d2
    have hd' : isDg r2 := by rw [h2]; exact hd
    have bad : (55 < r2 ∨ isLt r3 ∨ isDg r3) → zp (zb_M_next_234 N (zx_up X 82 8 (r2 - 48))) (NXP σ p) := by
      intro h
      unfold zb_M_next_234 zb_M_next_239
      refine zp_some ⟨(fr.up (by simp)).up (by simp), by rw [u _ _ _ _ (by decide), u _ _ _ _ (by decide)]; exact e5, 1, (bt (σ 84) (σ 82 4) p - 48).toInt64, Or.inr (Or.inr (Or.inl ⟨c, hd, by rw [u _ _ _ _ (by decide), u _ _ _ _ (by decide), e6], rfl, Or.inl ⟨by rw [← h2, ← h3]; exact h, rfl⟩⟩)), Or.inr (Or.inl ⟨rfl, v _ _ _⟩)⟩
    refine zp_ite (fun a => bad (Or.inl ?_)) fun a => ?_
    · clear bad h2 h3 nl hd; grind
    have a' : ¬ 55 < r2 := by clear bad h2 h3 nl hd; grind
    refine zp_bind (zp_mono p_M_isDigit fun r23 h23 => zp_ite (fun b => bad (Or.inr (Or.inr ?_))) fun b => ?_)
    · by_cases q : isDg r3
      · exact q
      · rw [if_neg q] at h23; exact absurd h23 b
    have nd3 : ¬ isDg r3 := by
      intro q
      rw [if_pos q] at h23
      rw [h23] at b
      exact b (by decide)
    refine zp_bind (zp_mono p_M_isLetter fun r25 h25 => zp_ite (fun e => ?_) fun e => bad (Or.inr (Or.inl ?_)))
    · have nl3 : ¬ isLt r3 := by
        intro q
        rw [if_pos q] at h25
        rw [h25] at e
        exact absurd e (by decide)
      unfold zb_M_next_239
      refine zp_some ⟨(fr.up (by simp)).up (by simp), by rw [u _ _ _ _ (by decide), u _ _ _ _ (by decide)]; exact e5, 2, (bt (σ 84) (σ 82 4) p - 48).toInt64, Or.inr (Or.inr (Or.inl ⟨c, hd, by rw [u _ _ _ _ (by decide), u _ _ _ _ (by decide), e6], rfl, Or.inr ⟨by rw [← h2, ← h3]; exact fun q => q.elim a' (fun q => q.elim nl3 nd3), rfl⟩⟩)), Or.inr (Or.inr (Or.inl ⟨rfl, v _ _ _, ?_, ?_, ?_⟩))⟩
      · rw [u _ _ _ _ (by decide), v, h2]
      · rw [u _ _ _ _ (by decide), v]; clear bad h2 h3 nl hd; grind
      · rw [u _ _ _ _ (by decide), v]; clear bad h2 h3 nl hd; grind
    · by_cases q : isLt r3
      · exact q
      · rw [if_neg q] at h25; exact absurd h25 e
theorem p_M_next {N : Nat} {σ : zS} (hi : 0 ≤ σ 82 5 + σ 82 6 ∧ σ 82 4 ≤ 1500) : zp (zf_M_next N σ) (fun r => NX0 σ r ∧ skipTo (σ 84) (σ 82 4) (σ 82 5 + σ 82 6) (r 82 5) ∧ ∃ k w, Tk (σ 84) (σ 82 4) (r 82 5) (r 82 5 + r 82 6) k w ∧ mkd k w (r 82 7) (r 82 8)) := by
  unfold zf_M_next
  refine p_M_skip hi.2 (fun p hp => zp_mono (p_M_next44 ⟨Int32.le_trans hi.1 hp.1, hi.2⟩) ?_) N _ Int32.le_rfl (fun j a b => absurd a (Int32.not_le.mpr b))
  rintro r ⟨a, b, k, w, c, d⟩
  exact ⟨a, by rw [b]; exact hp, k, w, by rw [b]; exact c, d⟩
theorem p_X_byteAt {σ : zS} {x : Int32} (hx : 0 ≤ x ∧ σ 25 4 ≤ 1500) : zp (zf_Tokens_byteAt σ x) (fun r => (x < σ 25 4 ∧ r = bt (σ 3) (σ 25 4) x) ∨ (¬ x < σ 25 4 ∧ r = -1)) := by
  unfold zf_Tokens_byteAt zb_Tokens_byteAt_21 bt
  refine zp_ite (fun c => absurd hx.1 (Int32.not_le.mpr c)) fun c => zp_ite (fun d => zp_some (Or.inr ⟨Int32.not_lt.mpr d, rfl⟩)) fun d => zp_ite (fun e => zp_chk fun _ => zp_some (Or.inl ⟨Int32.not_le.mp d, ?_⟩)) fun e => ?_
  · rw [if_pos (Int32.not_le.mp d)]
  · exact absurd (Int32.lt_of_lt_of_le (Int32.not_le.mp d) hx.2) e
theorem p_X_isOfWord {σ : zS} {x : Int32} : zp (zf_Tokens_isOfWord σ x) (fun r => r = if isLt x ∨ isDg x then 1 else 0) := by
  unfold zf_Tokens_isOfWord zb_Tokens_isOfWord_12 zb_Tokens_isOfWord_24
  refine zp_ite (fun c => ?_) fun c => zp_ite (fun d => zp_some ?_) fun d => ?_
  · refine zp_ite (fun a => zp_some ?_) fun a => zp_ite (fun b => zp_some ?_) fun b => zp_some ?_
    · rw [if_neg]; rintro (⟨h, _⟩ | ⟨h, _⟩)
      · exact Int32.not_le.mpr c h
      · exact Int32.not_le.mpr a h
    · rw [if_neg]; rintro (⟨h, _⟩ | ⟨_, h⟩)
      · exact Int32.not_le.mpr c h
      · exact Int32.not_le.mpr b h
    · rw [if_pos (Or.inr ⟨Int32.not_lt.mp a, Int32.not_lt.mp b⟩)]
  · rw [if_pos (Or.inl ⟨Int32.not_lt.mp c, d⟩)]
  · refine zp_ite (fun a => zp_some ?_) fun a => zp_ite (fun b => zp_some ?_) fun b => zp_some ?_
    · rw [if_neg]; rintro (⟨_, h⟩ | ⟨h, _⟩)
      · exact d h
      · exact Int32.not_le.mpr a h
    · rw [if_neg]; rintro (⟨_, h⟩ | ⟨_, h⟩)
      · exact d h
      · exact Int32.not_le.mpr b h
    · rw [if_pos (Or.inr ⟨Int32.not_lt.mp a, Int32.not_lt.mp b⟩)]
theorem p_X_isSign {σ : zS} {x : Int32} : zp (zf_Tokens_isSign σ x) (fun r => r = if isSg x then 1 else 0) := by
  unfold zf_Tokens_isSign
  refine zp_ite (fun a => zp_some (by rw [a]; decide)) fun a1 => zp_ite (fun a => zp_some (by rw [a]; decide)) fun a2 => zp_ite (fun a => zp_some (by rw [a]; decide)) fun a3 => zp_ite (fun a => zp_some (by rw [a]; decide)) fun a4 => zp_ite (fun a => zp_some (by rw [a]; decide)) fun a5 => zp_ite (fun a => zp_some (by rw [a]; decide)) fun a6 => zp_ite (fun a => zp_some (by rw [a]; decide)) fun a7 => zp_ite (fun a => zp_some (by rw [a]; decide)) fun a8 => zp_some ?_
  rw [if_neg]
  rintro (h | h | h | h | h | h | h | h) <;> contradiction
theorem p_X_isBlank {σ : zS} {x : Int32} : zp (zf_Tokens_isBlank σ x) (fun r => r = if isBl x then 1 else 0) := by
  unfold zf_Tokens_isBlank zb_Tokens_isBlank_12
  refine zp_ite (fun a => zp_some (by rw [a]; decide)) fun a1 => zp_ite (fun a => zp_some ?_) fun a => zp_some (by rw [Classical.not_not.mp a]; decide)
  rw [if_neg]
  rintro (h | h) <;> contradiction
def XK0 (σ r : zS) : Prop := (∀ q, q ≠ 25 → r q = σ q) ∧ (∀ i, i ≠ 7 → i ≠ 8 → r 25 i = σ 25 i)
theorem XK0.rfl {σ : zS} : XK0 σ σ := ⟨fun _ _ => Eq.refl _, fun _ _ _ => Eq.refl _⟩
theorem XK0.up {σ ρ : zS} {i : Nat} {v : Int32} (hi : i = 7 ∨ i = 8) (h : XK0 σ ρ) : XK0 σ (zx_up ρ 25 i v) :=
  ⟨fun q hq => by rw [zu_other hq]; exact h.1 q hq, fun j a b => by rw [zx_up_same, zu_ne (by omega)]; exact h.2 j a b⟩
def RS (τ : zT) : Prop := τ 1 0 = 439854918756 ∧ τ 1 1 = 1869636974 ∧ τ 1 2 = 1819239275 ∧ τ 1 3 = 127991944667492 ∧ τ 1 4 = 26982 ∧ τ 1 5 = 1701606245 ∧ τ 1 6 = 512852847717 ∧ τ 1 7 = 2002872692 ∧ τ 1 8 = 2002873189 ∧ τ 1 9 = 6384748 ∧ τ 1 10 = 495873782388 ∧ τ 1 11 = 1785686382 ∧ τ 1 12 = 426953237355 ∧ τ 1 13 = 1937010544 ∧ τ 1 14 = 1936744814
theorem RS.at {τ : zT} (h : RS τ) {w : Int64} {j : Nat} (hj : j < 15) (e : τ 1 j = w) : rsv w = 300 + Int32.ofNat j := by
  obtain ⟨h0, h1, h2, h3, h4, h5, h6, h7, h8, h9, h10, h11, h12, h13, h14⟩ := h
  subst e
  match j, hj with
  | 0, _ => rw [h0]; decide
  | 1, _ => rw [h1]; decide
  | 2, _ => rw [h2]; decide
  | 3, _ => rw [h3]; decide
  | 4, _ => rw [h4]; decide
  | 5, _ => rw [h5]; decide
  | 6, _ => rw [h6]; decide
  | 7, _ => rw [h7]; decide
  | 8, _ => rw [h8]; decide
  | 9, _ => rw [h9]; decide
  | 10, _ => rw [h10]; decide
  | 11, _ => rw [h11]; decide
  | 12, _ => rw [h12]; decide
  | 13, _ => rw [h13]; decide
  | 14, _ => rw [h14]; decide
  | n + 15, h => exact absurd h (by omega)
theorem RS.no {τ : zT} (h : RS τ) {w : Int64} (e : ∀ j, j < 15 → τ 1 j ≠ w) : rsv w = 3 := by
  obtain ⟨h0, h1, h2, h3, h4, h5, h6, h7, h8, h9, h10, h11, h12, h13, h14⟩ := h
  unfold rsv
  rw [if_neg (fun q => e 0 (by decide) (h0.trans q.symm)), if_neg (fun q => e 1 (by decide) (h1.trans q.symm)), if_neg (fun q => e 2 (by decide) (h2.trans q.symm)), if_neg (fun q => e 3 (by decide) (h3.trans q.symm)), if_neg (fun q => e 4 (by decide) (h4.trans q.symm)), if_neg (fun q => e 5 (by decide) (h5.trans q.symm)), if_neg (fun q => e 6 (by decide) (h6.trans q.symm)), if_neg (fun q => e 7 (by decide) (h7.trans q.symm)), if_neg (fun q => e 8 (by decide) (h8.trans q.symm)), if_neg (fun q => e 9 (by decide) (h9.trans q.symm)), if_neg (fun q => e 10 (by decide) (h10.trans q.symm)), if_neg (fun q => e 11 (by decide) (h11.trans q.symm)), if_neg (fun q => e 12 (by decide) (h12.trans q.symm)), if_neg (fun q => e 13 (by decide) (h13.trans q.symm)), if_neg (fun q => e 14 (by decide) (h14.trans q.symm))]
theorem p_X_look {N : Nat} {σ : zS} {τ : zT} {v1 : Int32} (rs : RS τ) : ∀ (n : Nat) (ρ : zS) (v : Int32), XK0 σ ρ → ρ 25 8 = σ 25 8 → 0 ≤ v → ((ρ 25 7 = 3 ∧ ∀ j, j < v.toNatClampNeg → τ 1 j ≠ τ 25 9) ∨ (∃ j, j < 15 ∧ ρ 25 7 = 300 + Int32.ofNat j ∧ τ 1 j = τ 25 9)) → zp (zb_Tokens_takeWord_70 N n ρ τ v1 v) (fun r => r.1 = v1 ∧ r.2.2 = τ ∧ XK0 σ r.2.1 ∧ r.2.1 25 8 = σ 25 8 ∧ r.2.1 25 7 = rsv (τ 25 9)) := by
  intro n
  induction n with
  | zero => intro _ _ _ _ _ _; exact zp_none
  | succ n ih =>
    intro ρ v fr e8 h0 hv
    rw [zb_Tokens_takeWord_70]
    refine zp_ite (fun c => zp_some ⟨rfl, rfl, fr, e8, ?_⟩) fun c => zp_ite (fun d => zp_some ⟨rfl, rfl, fr, e8, ?_⟩) fun d => zp_chk fun b => ?_
    · rcases hv with ⟨a, b⟩ | ⟨j, hj, a, b⟩
      · refine a.trans (rs.no fun j hj => b j ?_).symm
        have := z_nat h0
        have c : (15 : Int32).toInt ≤ v.toInt := Int32.le_iff_toInt_le.mp c
        have : (15 : Int32).toInt = 15 := rfl
        omega
      · exact a.trans (rs.at hj b).symm
    · rcases hv with ⟨a, b⟩ | ⟨j, hj, a, b⟩
      · exact absurd a d
      · exact a.trans (rs.at hj b).symm
    · have d := Classical.not_not.mp d
      have n1 : (v + 1).toNatClampNeg = v.toNatClampNeg + 1 := by
        have k1 : (1 : Int32).toInt = 1 := rfl
        have k15 : (15 : Int32).toInt = 15 := rfl
        have a := z_nat h0
        have v6 := Int32.lt_iff_toInt_lt.mp b.2
        have s := z_ti_add (a := v) (b := 1) (by omega) (by omega)
        have p : 0 ≤ v + 1 := Int32.le_iff_toInt_le.mpr (by rw [s]; show (0 : Int) ≤ _; omega)
        have b := z_nat p
        omega
      have vb : v.toNatClampNeg < 15 := by
        have k15 : (15 : Int32).toInt = 15 := rfl
        have a := z_nat h0
        have v6 := Int32.lt_iff_toInt_lt.mp b.2
        omega
      have v0 : 0 ≤ v + 1 := by clear ih hv fr; grind
      refine zp_ite (fun m => ?_) fun m => ?_
      · unfold zb_Tokens_takeWord_108
        refine ih ρ (v + 1) fr e8 v0 (Or.inl ⟨d, fun j hj => ?_⟩)
        rw [n1] at hj
        rcases hv with ⟨_, q⟩ | ⟨j', hj', a, q⟩
        · by_cases jj : j < v.toNatClampNeg
          · exact q j jj
          · have : j = v.toNatClampNeg := by omega
            rw [this]
            exact m
        · exfalso
          rw [d] at a
          have : j' < 15 := hj'
          clear ih fr
          match j', hj' with
          | 0, _ | 1, _ | 2, _ | 3, _ | 4, _ | 5, _ | 6, _ | 7, _ | 8, _ | 9, _ | 10, _ | 11, _ | 12, _ | 13, _ | 14, _ => exact absurd a (by decide)
          | n + 15, h => exact absurd h (by omega)
      · unfold zb_Tokens_takeWord_108
        have m := Classical.not_not.mp m
        refine ih _ (v + 1) (fr.up (by simp)) (by rw [zx_up_same, zu_ne (by decide)]; exact e8) v0 (Or.inr ⟨v.toNatClampNeg, vb, ?_, m⟩)
        rw [zx_up_same, zu_eq]
        congr 1
        apply Int32.toInt_inj.mp
        have a := z_nat h0
        rw [Int32.toInt_ofNat_of_lt (by omega)]
        omega
theorem zt_other {τ : zT} {q p i : Nat} {v : Int64} (h : p ≠ q) : zx_up τ q i v p = τ p := by
  funext j
  simp [zx_up, h]
theorem zt_at {τ : zT} {q i : Nat} {v : Int64} : zx_up τ q i v q i = v := by
  simp [zx_up]
theorem zt_ne {τ : zT} {q i j : Nat} {v : Int64} (h : j ≠ i) : zx_up τ q i v q j = τ q j := by
  simp [zx_up, h]
theorem z_sub1 {v P : Int32} (h0 : 0 ≤ P) (h1 : P ≤ v) (h2 : v ≤ 1500) : (v + 1 - P).toNatClampNeg = (v - P).toNatClampNeg + 1 ∧ P + Int32.ofNat (v - P).toNatClampNeg = v := by
  have a0 : (0 : Int) ≤ P.toInt := Int32.le_iff_toInt_le.mp h0
  have a1 := Int32.le_iff_toInt_le.mp h1
  have a2 : v.toInt ≤ 1500 := Int32.le_iff_toInt_le.mp h2
  have k1 : (1 : Int32).toInt = 1 := rfl
  have s1 := z_ti_add (a := v) (b := 1) (by omega) (by omega)
  have e1 : (v - P).toInt = v.toInt - P.toInt := by rw [Int32.toInt_sub, Int.bmod_def]; omega
  have e2 : (v + 1 - P).toInt = v.toInt + 1 - P.toInt := by rw [Int32.toInt_sub, s1, k1, Int.bmod_def]; omega
  have p1 : 0 ≤ v - P := Int32.le_iff_toInt_le.mpr (by rw [e1]; show (0 : Int) ≤ _; omega)
  have p2 : 0 ≤ v + 1 - P := Int32.le_iff_toInt_le.mpr (by rw [e2]; show (0 : Int) ≤ _; omega)
  have n1 := z_nat p1
  have n2 := z_nat p2
  refine ⟨by omega, ?_⟩
  apply Int32.toInt_inj.mp
  have e3 : (Int32.ofNat (v - P).toNatClampNeg).toInt = v.toInt - P.toInt := by rw [Int32.toInt_ofNat_of_lt (by omega)]; omega
  rw [z_ti_add (by omega) (by omega), e3]
  omega
theorem p_X_word {N : Nat} {σ : zS} (hp : 0 ≤ σ 25 8 ∧ σ 25 8 < σ 25 4 ∧ σ 25 4 ≤ 1500) : ∀ (n : Nat) (τ τ0 : zT) (v : Int32), RS τ0 → (∀ q, q ≠ 25 → τ q = τ0 q) → σ 25 8 ≤ v → v ≤ σ 25 4 → τ 25 9 = pkw (σ 3) (σ 25 4) (σ 25 8) (v - σ 25 8).toNatClampNeg → (∀ j, σ 25 8 ≤ j → j < v → j < σ 25 4 ∧ (isLt (bt (σ 3) (σ 25 4) j) ∨ isDg (bt (σ 3) (σ 25 4) j))) → zp (zb_Tokens_takeWord_5 N n σ τ v) (fun r => XK0 σ r.2.1 ∧ r.2.1 25 8 = σ 25 8 ∧ (∀ q, q ≠ 25 → r.2.2 q = τ0 q) ∧ wordTo (σ 3) (σ 25 4) (σ 25 8) r.1 ∧ ((6 < r.1 - σ 25 8 ∧ r.2.1 25 7 = 1) ∨ (r.1 - σ 25 8 ≤ 6 ∧ r.2.2 25 9 = pkw (σ 3) (σ 25 4) (σ 25 8) (r.1 - σ 25 8).toNatClampNeg ∧ r.2.1 25 7 = rsv (r.2.2 25 9)))) := by
  intro n
  induction n with
  | zero => intro _ _ _ _ _ _ _ _ _; exact zp_none
  | succ n ih =>
    intro τ τ0 v rs ft h1 h2 hw hl
    rw [zb_Tokens_takeWord_5]
    have rs' : RS τ := by unfold RS at rs ⊢; rw [ft 1 (by decide)]; exact rs
    have fin : ¬ (v < σ 25 4 ∧ (isLt (bt (σ 3) (σ 25 4) v) ∨ isDg (bt (σ 3) (σ 25 4) v))) → zp (zb_Tokens_takeWord_48 N σ τ v) (fun r => XK0 σ r.2.1 ∧ r.2.1 25 8 = σ 25 8 ∧ (∀ q, q ≠ 25 → r.2.2 q = τ0 q) ∧ wordTo (σ 3) (σ 25 4) (σ 25 8) r.1 ∧ ((6 < r.1 - σ 25 8 ∧ r.2.1 25 7 = 1) ∨ (r.1 - σ 25 8 ≤ 6 ∧ r.2.2 25 9 = pkw (σ 3) (σ 25 4) (σ 25 8) (r.1 - σ 25 8).toNatClampNeg ∧ r.2.1 25 7 = rsv (r.2.2 25 9)))) := by
      intro no
      unfold zb_Tokens_takeWord_48 zb_Tokens_takeWord_65
      refine zp_ite (fun c => ?_) fun c => ?_
      · refine zp_mono (p_X_look (σ := σ) rs' N _ 0 (XK0.rfl.up (by simp)) (by rw [zx_up_same, zu_ne (by decide)]) (by decide) (Or.inl ⟨by rw [zx_up_same, zu_eq], fun j hj => absurd hj (Nat.not_lt_zero _)⟩)) ?_
        rintro ⟨r1, r2, r3⟩ ⟨a1, a2, a3, a4, a5⟩
        simp only at a1 a2 a3 a4 a5 ⊢
        subst a1 a2
        exact ⟨a3, a4, ft, ⟨h1, hl, no⟩, Or.inr ⟨c, hw, a5⟩⟩
      · have stop : ∀ m, zp (zb_Tokens_takeWord_70 N m (zx_up σ 25 7 1) τ v 0) (fun r => r = (v, zx_up σ 25 7 1, τ)) := by
          intro m
          cases m with
          | zero => exact zp_none
          | succ m =>
            rw [zb_Tokens_takeWord_70]
            refine zp_ite (fun q => absurd q (by decide)) fun _ => zp_ite (fun _ => zp_some rfl) fun q => absurd (Classical.not_not.mp q) (by rw [zx_up_same, zu_eq]; decide)
        refine zp_mono (stop N) ?_
        rintro _ rfl
        exact ⟨XK0.rfl.up (by simp), (show (zx_up σ 25 7 1) 25 8 = σ 25 8 by rw [zx_up_same, zu_ne (by decide)]), ft, ⟨h1, hl, no⟩, Or.inl ⟨Int32.not_le.mp c, (show (zx_up σ 25 7 1) 25 7 = 1 by rw [zx_up_same, zu_eq])⟩⟩
    refine zp_ite (fun c => fin fun h => Int32.not_lt.mpr c h.1) fun c => ?_
    have c' := Int32.not_le.mp c
    have v0 : 0 ≤ v := Int32.le_trans hp.1 h1
    refine zp_bind (zp_mono (p_X_byteAt ⟨v0, hp.2.2⟩) fun r1 q1 => zp_bind (zp_mono p_X_isOfWord fun r2 q2 => ?_))
    have q1 := (q1.resolve_right (fun h => h.1 c')).2
    refine zp_ite (fun d => fin fun h => ?_) fun d => ?_
    · rw [q1, if_pos h.2] at q2
      rw [q2] at d
      exact absurd d (by decide)
    · have w : isLt (bt (σ 3) (σ 25 4) v) ∨ isDg (bt (σ 3) (σ 25 4) v) := by
        rw [← q1]
        by_cases q : isLt r1 ∨ isDg r1
        · exact q
        · rw [if_neg q] at q2; exact absurd q2 d
      refine zp_bind (zp_mono (p_X_byteAt ⟨v0, hp.2.2⟩) fun r3 q3 => ?_)
      have q3 := (q3.resolve_right (fun h => h.1 c')).2
      have pp := hp.1
      have p4 := hp.2.2
      refine ih _ τ0 (v + 1) rs (fun q hq => by rw [show (zx_up τ 25 9 (zJ_lshl (τ 25 9) 8 ||| r3.toInt64)) q = τ q from zt_other hq]; exact ft q hq) ?_ ?_ ?_ ?_
      · generalize σ 25 8 = P at *; generalize σ 25 4 = L at *; clear hw hl fin w q1 q3 ih ft rs rs'; grind
      · generalize σ 25 8 = P at *; generalize σ 25 4 = L at *; clear hw hl fin w q1 q3 ih ft rs rs'; grind
      · rw [zt_at]
        have n1 : (v + 1 - σ 25 8).toNatClampNeg = (v - σ 25 8).toNatClampNeg + 1 ∧ σ 25 8 + Int32.ofNat (v - σ 25 8).toNatClampNeg = v := by
          generalize σ 25 8 = P at *
          generalize σ 25 4 = L at *
          exact z_sub1 pp h1 (Int32.le_trans h2 p4)
        rw [n1.1, pkw, ← hw, q3, n1.2]
      · intro j j1 j2
        by_cases q : j < v
        · exact hl j j1 q
        · have : j = v := by generalize σ 25 4 = L at *; clear hw hl fin w q1 q3 ih ft rs rs'; grind
          rw [this]
          exact ⟨c', w⟩
abbrev XTP (σ : zS) (τ : zT) (p : Int32) (r : Int32 × zS × zT) : Prop := XK0 σ r.2.1 ∧ (∀ q, q ≠ 25 → r.2.2 q = τ q) ∧ r.2.1 25 8 = p ∧ Tk (σ 3) (σ 25 4) p r.1 (r.2.1 25 7) (r.2.2 25 9)
theorem p_X_token43 {N : Nat} {σ ρ : zS} {τ : zT} (rs : RS τ) (fr : XK0 σ ρ) (hp : 0 ≤ ρ 25 8 ∧ σ 25 4 ≤ 1500) : zp (zb_Tokens_takeToken_43 N ρ τ) (XTP σ τ (ρ 25 8)) := by
  have e3 : ρ 3 = σ 3 := fr.1 3 (by decide)
  have e4 : ρ 25 4 = σ 25 4 := fr.2 4 (by decide) (by decide)
  have tr : ∀ {x : zS}, XK0 ρ x → XK0 σ x := fun h => ⟨fun q hq => (h.1 q hq).trans (fr.1 q hq), fun i a b => (h.2 i a b).trans (fr.2 i a b)⟩
  have u : ∀ (ρ : zS) i j v, i ≠ j → (zx_up ρ 25 i v) 25 j = ρ 25 j := fun ρ i j v h => by rw [zx_up_same, zu_ne (Ne.symm h)]
  have v : ∀ (ρ : zS) i v, (zx_up ρ 25 i v) 25 i = v := fun ρ i v => by rw [zx_up_same, zu_eq]
  unfold zb_Tokens_takeToken_43
  refine zp_bind (zp_mono (p_X_byteAt ⟨hp.1, by rw [e4]; exact hp.2⟩) fun r2 h2 => ?_)
  rw [e3, e4] at h2
  refine zp_ite (fun c => ?_) fun c => ?_
  rotate_left
  · have c := Classical.not_not.mp c
    have q : ¬ ρ 25 8 < σ 25 4 := by
      rcases h2 with ⟨_, h⟩ | ⟨h, _⟩
      · exfalso
        have := bt_rng (b := σ 3) (n := σ 25 4) (x := ρ 25 8)
        rw [← h, c] at this
        exact absurd this.1 (by decide)
      · exact h
    refine zp_some ⟨fr.up (by simp), fun q hq => zt_other hq, u ρ 7 8 0 (by decide), Or.inl ⟨Int32.not_lt.mp q, v ρ 7 0, rfl⟩⟩
  have h2 := h2.resolve_right (fun h => c h.2)
  obtain ⟨lt, h2⟩ := h2
  refine zp_bind (zp_mono p_X_isOfWord fun r4 h4 => zp_ite (fun d => ?_) fun d => ?_)
  ·
    have no : ¬ (isLt r2 ∨ isDg r2) := by
      intro q
      rw [if_pos q] at h4
      rw [h4] at d
      exact absurd d (by decide)
    have nl : ¬ isLt (bt (σ 3) (σ 25 4) (ρ 25 8)) := by rw [← h2]; exact fun q => no (Or.inl q)
    have nd : ¬ isDg (bt (σ 3) (σ 25 4) (ρ 25 8)) := by rw [← h2]; exact fun q => no (Or.inr q)
    have p1 : 0 ≤ ρ 25 8 + 1 := by
      have := hp.1; have := hp.2
      generalize ρ 25 8 = P at *; generalize σ 25 4 = L at *
      clear h2 h4 nl nd; grind
    have one : ¬ ((r2 = 61 ∨ r2 = 33) ∧ bt (σ 3) (σ 25 4) (ρ 25 8 + 1) = 61) → zp (zb_Tokens_takeSign_53 ρ r2) (fun x => XTP σ τ (ρ 25 8) (x.1, x.2, zx_up τ 25 9 0)) := by
      intro no
      unfold zb_Tokens_takeSign_53 zb_Tokens_takeSign_66
      refine zp_bind (zp_mono p_X_isSign fun r5 h5 => zp_ite (fun a => zp_some ?_) fun a => zp_some ?_)
      · have ns : ¬ isSg r2 := by
          intro q
          rw [if_pos q] at h5
          rw [h5] at a
          exact absurd a (by decide)
        exact ⟨fr.up (by simp), fun q hq => zt_other hq, u ρ 7 8 1 (by decide), Or.inr (Or.inr (Or.inr ⟨lt, nl, nd, Or.inr ⟨by rw [← h2]; exact no, rfl, Or.inr ⟨by rw [← h2]; exact ns, v ρ 7 1⟩⟩⟩))⟩
      · have ns : isSg r2 := by
          by_cases q : isSg r2
          · exact q
          · rw [if_neg q] at h5; exact absurd h5 a
        exact ⟨fr.up (by simp), fun q hq => zt_other hq, u ρ 7 8 r2 (by decide), Or.inr (Or.inr (Or.inr ⟨lt, nl, nd, Or.inr ⟨by rw [← h2]; exact no, rfl, Or.inl ⟨by rw [← h2]; exact ns, (v ρ 7 r2).trans h2⟩⟩⟩))⟩
    have two : (r2 = 61 ∨ r2 = 33) → zp (zb_Tokens_takeSign_12 ρ r2) (fun x => XTP σ τ (ρ 25 8) (x.1, x.2, zx_up τ 25 9 0)) := by
      intro h
      unfold zb_Tokens_takeSign_12 zb_Tokens_takeSign_43
      refine zp_bind (zp_mono (p_X_byteAt ⟨p1, by rw [e4]; exact hp.2⟩) fun r6 h6 => ?_)
      rw [e3, e4] at h6
      have r6e : r6 = 61 ↔ bt (σ 3) (σ 25 4) (ρ 25 8 + 1) = 61 := by
        rcases h6 with ⟨_, h⟩ | ⟨h, h'⟩
        · rw [h]
        · rw [h', bt_out h]; decide
      refine zp_ite (fun a => one (fun q => a (r6e.mpr q.2))) fun a => ?_
      have a := r6e.mp (Classical.not_not.mp a)
      refine zp_ite (fun b => zp_some ?_) fun b => zp_some ?_
      · have b' := h.resolve_left b
        exact ⟨fr.up (by simp), fun q hq => zt_other hq, u ρ 7 8 257 (by decide), Or.inr (Or.inr (Or.inr ⟨lt, nl, nd, Or.inl ⟨by rw [← h2]; exact h, a, rfl, Or.inr ⟨by rw [← h2]; exact b', v ρ 7 257⟩⟩⟩))⟩
      · have b' := Classical.not_not.mp b
        exact ⟨fr.up (by simp), fun q hq => zt_other hq, u ρ 7 8 256 (by decide), Or.inr (Or.inr (Or.inr ⟨lt, nl, nd, Or.inl ⟨by rw [← h2]; exact h, a, rfl, Or.inl ⟨by rw [← h2]; exact b', v ρ 7 256⟩⟩⟩))⟩
    refine zp_bind (zp_mono (?_ : zp (zf_Tokens_takeSign ρ r2) (fun x => XTP σ τ (ρ 25 8) (x.1, x.2, zx_up τ 25 9 0))) fun x hx => zp_some hx)
    unfold zf_Tokens_takeSign
    exact zp_ite (fun a => two (Or.inl a)) fun a => zp_ite (fun b => one (fun q => q.1.elim a b)) fun b => two (Or.inr (Classical.not_not.mp b))
  · have of : isLt r2 ∨ isDg r2 := by
      by_cases q : isLt r2 ∨ isDg r2
      · exact q
      · rw [if_neg q] at h4; exact absurd h4 d
    refine zp_ite (fun a => ?_) fun a => ?_
    ·
      have hl : isLt r2 := of.resolve_right (fun q => absurd q.2 (Int32.not_le.mpr a))
      unfold zf_Tokens_takeWord
      have ww := p_X_word (N := N) (σ := ρ) (by rw [e4]; exact ⟨hp.1, lt, hp.2⟩) N (zx_up τ 25 9 0) τ (ρ 25 8) rs (fun q hq => zt_other hq) Int32.le_rfl (by rw [e4]; exact Int32.le_of_lt lt) (by rw [zt_at, Int32.sub_self]; rfl) (fun j x y => absurd x (Int32.not_le.mpr y))
      rw [e3, e4] at ww
      refine zp_bind (zp_mono ww ?_)
      rintro ⟨x1, x2, x3⟩ ⟨w1, w2, w3, w4, w5⟩
      simp only at w1 w2 w3 w4 w5
      refine zp_some ⟨tr w1, w3, w2, Or.inr (Or.inl ⟨lt, by rw [← h2]; exact hl, w4, w5⟩)⟩
    ·
      have hd : isDg r2 := of.resolve_left (fun q => a (Int32.lt_of_lt_of_le (by decide) q.1))
      unfold zf_Tokens_takeNumber zb_Tokens_takeNumber_32 zb_Tokens_takeNumber_37
      have bad : (55 < bt (σ 3) (σ 25 4) (ρ 25 8) ∨ isLt (bt (σ 3) (σ 25 4) (ρ 25 8 + 1)) ∨ isDg (bt (σ 3) (σ 25 4) (ρ 25 8 + 1))) → XTP σ τ (ρ 25 8) (ρ 25 8 + 1, zx_up ρ 25 7 1, zx_up (zx_up τ 25 9 0) 25 9 (r2 - 48).toInt64) := by
        intro h
        exact ⟨fr.up (by simp), fun q hq => (zt_other hq).trans (zt_other hq), u ρ 7 8 1 (by decide), Or.inr (Or.inr (Or.inl ⟨lt, by rw [← h2]; exact hd, rfl, by show (zx_up (zx_up τ 25 9 0) 25 9 (r2 - 48).toInt64) 25 9 = _; rw [zt_at, h2], Or.inl ⟨h, v ρ 7 1⟩⟩))⟩
      refine zp_bind (zp_ite (fun b => zp_some (zp_some (bad (Or.inl (by rw [← h2]; exact b))))) fun b => ?_)
      have p1 : 0 ≤ ρ 25 8 + 1 := by
        have := hp.1; have := hp.2
        generalize ρ 25 8 = P at *; generalize σ 25 4 = L at *
        clear h2 h4 bad; grind
      refine zp_bind (zp_mono (p_X_byteAt ⟨p1, by rw [e4]; exact hp.2⟩) fun r6 h6 => zp_bind (zp_mono p_X_isOfWord fun r7 h7 => ?_))
      rw [e3, e4] at h6
      have r6e : (isLt r6 ∨ isDg r6) ↔ (isLt (bt (σ 3) (σ 25 4) (ρ 25 8 + 1)) ∨ isDg (bt (σ 3) (σ 25 4) (ρ 25 8 + 1))) := by
        rcases h6 with ⟨_, h⟩ | ⟨h, h'⟩
        · rw [h]
        · rw [h', bt_out h]; decide
      refine zp_ite (fun e => zp_some (zp_some ?_)) fun e => zp_some (zp_some (bad (Or.inr (r6e.mp ?_))))
      · have no : ¬ (isLt r6 ∨ isDg r6) := by
          intro q
          rw [if_pos q] at h7
          rw [h7] at e
          exact absurd e (by decide)
        exact ⟨fr.up (by simp), fun q hq => (zt_other hq).trans (zt_other hq), u ρ 7 8 2 (by decide), Or.inr (Or.inr (Or.inl ⟨lt, by rw [← h2]; exact hd, rfl, by show (zx_up (zx_up τ 25 9 0) 25 9 (r2 - 48).toInt64) 25 9 = _; rw [zt_at, h2], Or.inr ⟨fun q => q.elim (by rw [← h2]; exact b) (fun q => no (r6e.mpr q)), v ρ 7 2⟩⟩))⟩
      · by_cases q : isLt r6 ∨ isDg r6
        · exact q
        · rw [if_neg q] at h7; exact absurd h7 e
theorem p_X_token5 {N : Nat} {σ : zS} {τ : zT} {i : Int32} (rs : RS τ) (hi : 0 ≤ i ∧ σ 25 4 ≤ 1500) : ∀ (n : Nat) (ρ : zS), XK0 σ ρ → i ≤ ρ 25 8 → (∀ j, i ≤ j → j < ρ 25 8 → j < σ 25 4 ∧ isBl (bt (σ 3) (σ 25 4) j)) → zp (zb_Tokens_takeToken_5 N n ρ τ) (fun r => skipTo (σ 3) (σ 25 4) i (r.2.1 25 8) ∧ XTP σ τ (r.2.1 25 8) r) := by
  intro n
  induction n with
  | zero => intro _ _ _ _; exact zp_none
  | succ n ih =>
    intro ρ fr hv hb
    have e3 : ρ 3 = σ 3 := fr.1 3 (by decide)
    have e4 : ρ 25 4 = σ 25 4 := fr.2 4 (by decide) (by decide)
    rw [zb_Tokens_takeToken_5]
    have fin : ¬ (ρ 25 8 < σ 25 4 ∧ isBl (bt (σ 3) (σ 25 4) (ρ 25 8))) → zp (zb_Tokens_takeToken_43 N ρ τ) (fun r => skipTo (σ 3) (σ 25 4) i (r.2.1 25 8) ∧ XTP σ τ (r.2.1 25 8) r) := by
      intro no
      refine zp_mono (p_X_token43 rs fr ⟨Int32.le_trans hi.1 hv, hi.2⟩) ?_
      rintro r ⟨a, b, c, d⟩
      exact ⟨by rw [c]; exact ⟨hv, hb, no⟩, a, b, rfl, by rw [c]; exact d⟩
    refine zp_ite (fun c => fin fun h => Int32.not_lt.mpr (e4 ▸ c) h.1) fun c => ?_
    have c' : ρ 25 8 < σ 25 4 := e4 ▸ Int32.not_le.mp c
    refine zp_bind (zp_mono (p_X_byteAt ⟨Int32.le_trans hi.1 hv, by rw [e4]; exact hi.2⟩) fun r1 h1 => zp_bind (zp_mono p_X_isBlank fun r2 h2 => ?_))
    rw [e3, e4] at h1
    have h1 := (h1.resolve_right (fun h => h.1 c')).2
    refine zp_ite (fun d => fin fun h => ?_) fun d => ?_
    · rw [h1, if_pos h.2] at h2
      rw [h2] at d
      exact absurd d (by decide)
    · have bl : isBl (bt (σ 3) (σ 25 4) (ρ 25 8)) := by
        rw [← h1]
        by_cases q : isBl r1
        · exact q
        · rw [if_neg q] at h2; exact absurd h2 d
      have k8 : (zx_up ρ 25 8 (ρ 25 8 + 1)) 25 8 = ρ 25 8 + 1 := by rw [zx_up_same, zu_eq]
      have hi2 := hi.2
      have hi1 := hi.1
      refine ih _ (fr.up (by simp)) ?_ ?_
      · rw [k8]
        generalize ρ 25 8 = P at *; generalize σ 25 4 = L at *
        clear fin bl hb h1 ih fr; grind
      · rw [k8]
        intro j j1 j2
        by_cases q : j < ρ 25 8
        · exact hb j j1 q
        · have : j = ρ 25 8 := by
            generalize ρ 25 8 = P at *; generalize σ 25 4 = L at *
            clear fin bl hb h1 ih fr; grind
          rw [this]
          exact ⟨c', bl⟩
theorem p_X_token {N : Nat} {σ : zS} {τ : zT} {i : Int32} (rs : RS τ) (hi : 0 ≤ i ∧ σ 25 4 ≤ 1500) : zp (zf_Tokens_takeToken N σ τ i) (fun r => skipTo (σ 3) (σ 25 4) i (r.2.1 25 8) ∧ XTP σ τ (r.2.1 25 8) r) := by
  unfold zf_Tokens_takeToken
  refine p_X_token5 rs hi N _ (XK0.rfl.up (by simp)) ?_ ?_
  · rw [zx_up_same, zu_eq]; exact Int32.le_rfl
  · rw [zx_up_same, zu_eq]; exact fun j a b => absurd a (Int32.not_le.mpr b)
theorem Tk_one {b : Nat → Int32} {n p e k e' k' : Int32} {w w' : Int64} (h : Tk b n p e k w) (g : Tk b n p e' k' w') : e = e' ∧ k = k' ∧ (k = 2 ∨ k = 3 → w = w') := by
  rcases h with ⟨a1, a2, a3⟩ | ⟨a1, a2, a3, a4⟩ | ⟨a1, a2, a3, a4, a5⟩ | ⟨a1, a2, a3, a4⟩ <;> rcases g with ⟨b1, b2, b3⟩ | ⟨b1, b2, b3, b4⟩ | ⟨b1, b2, b3, b4, b5⟩ | ⟨b1, b2, b3, b4⟩
  · exact ⟨a3.trans b3.symm, a2.trans b2.symm, fun q => by rw [a2] at q; exact absurd q (by decide)⟩
  · exact absurd b1 (Int32.not_lt.mpr a1)
  · exact absurd b1 (Int32.not_lt.mpr a1)
  · exact absurd b1 (Int32.not_lt.mpr a1)
  · exact absurd a1 (Int32.not_lt.mpr b1)
  · have e1 := wordTo_one a3 b3
    subst e1
    rcases a4 with ⟨c1, c2⟩ | ⟨c1, c2, c3⟩ <;> rcases b4 with ⟨d1, d2⟩ | ⟨d1, d2, d3⟩
    · exact ⟨rfl, c2.trans d2.symm, fun q => by rw [c2] at q; exact absurd q (by decide)⟩
    · exact absurd d1 (Int32.not_le.mpr c1)
    · exact absurd c1 (Int32.not_le.mpr d1)
    · have ww : w = w' := c2.trans d2.symm
      exact ⟨rfl, by rw [c3, d3, ww], fun _ => ww⟩
  · exact absurd (Int32.le_trans a2.1 b2.2) (by decide)
  · exact absurd a2 b2
  · exact absurd a1 (Int32.not_lt.mpr b1)
  · exact absurd (Int32.le_trans b2.1 a2.2) (by decide)
  · refine ⟨a3.trans b3.symm, ?_, fun _ => a4.trans b4.symm⟩
    rcases a5 with ⟨c1, c2⟩ | ⟨c1, c2⟩ <;> rcases b5 with ⟨d1, d2⟩ | ⟨d1, d2⟩
    · exact c2.trans d2.symm
    · exact absurd c1 d1
    · exact absurd d1 c1
    · exact c2.trans d2.symm
  · exact absurd a2 b3
  · exact absurd a1 (Int32.not_lt.mpr b1)
  · exact absurd b2 a2
  · exact absurd b2 a3
  · rcases a4 with ⟨c1, c2, c3, c4⟩ | ⟨c1, c2, c3⟩ <;> rcases b4 with ⟨d1, d2, d3, d4⟩ | ⟨d1, d2, d3⟩
    · rcases c4 with ⟨x, y⟩ | ⟨x, y⟩ <;> rcases d4 with ⟨z, t⟩ | ⟨z, t⟩
      · exact ⟨c3.trans d3.symm, y.trans t.symm, fun q => by rw [y] at q; exact absurd q (by decide)⟩
      · rw [x] at z; exact absurd z (by decide)
      · rw [x] at z; exact absurd z (by decide)
      · exact ⟨c3.trans d3.symm, y.trans t.symm, fun q => by rw [y] at q; exact absurd q (by decide)⟩
    · exact absurd ⟨c1, c2⟩ d1
    · exact absurd ⟨d1, d2⟩ c1
    · rcases c3 with ⟨x, y⟩ | ⟨x, y⟩ <;> rcases d3 with ⟨z, t⟩ | ⟨z, t⟩
      · refine ⟨c2.trans d2.symm, y.trans t.symm, fun q => ?_⟩
        rw [y] at q
        exfalso
        rcases q with q | q <;> (rw [q] at x; exact absurd x (by decide))
      · exact absurd x z
      · exact absurd z x
      · exact ⟨c2.trans d2.symm, y.trans t.symm, fun q => by rw [y] at q; exact absurd q (by decide)⟩
theorem Tk_on {b : Nat → Int32} {n p e k : Int32} {w : Int64} (h : Tk b n p e k w) (hp : 0 ≤ p ∧ n ≤ 1500) (h0 : ¬ k = 0) : p < e ∧ p < n := by
  obtain ⟨p0, n1⟩ := hp
  rcases h with ⟨a1, a2, a3⟩ | ⟨a1, a2, a3, a4⟩ | ⟨a1, a2, a3, a4, a5⟩ | ⟨a1, a2, a3, a4⟩
  · exact absurd a2 h0
  · refine ⟨?_, a1⟩
    by_cases c : p = e
    · exfalso
      rw [← c] at a3
      exact a3.2.2 ⟨a1, Or.inl a2⟩
    · exact Int32.lt_of_le_of_ne a3.1 c
  · refine ⟨?_, a1⟩; rw [a3]; clear a2 a4 a5 a3; grind
  · refine ⟨?_, a1⟩
    rcases a4 with ⟨_, _, c, _⟩ | ⟨_, c, _⟩ <;> (rw [c]; clear a2 a3 c; grind)
theorem bt_congr {b b' : Nat → Int32} {n : Int32} (h : ∀ x : Int32, 0 ≤ x → x < n → b x.toNatClampNeg = b' x.toNatClampNeg) {x : Int32} (hx : 0 ≤ x) : bt b n x = bt b' n x := by
  unfold bt
  by_cases c : x < n
  · rw [if_pos c, if_pos c, h x hx c]
  · rw [if_neg c, if_neg c]
theorem skipTo_congr {b b' : Nat → Int32} {n i p : Int32} (h : ∀ x : Int32, 0 ≤ x → x < n → b x.toNatClampNeg = b' x.toNatClampNeg) (hi : 0 ≤ i) (g : skipTo b n i p) : skipTo b' n i p := by
  obtain ⟨a1, a2, a3⟩ := g
  refine ⟨a1, fun j j1 j2 => ?_, ?_⟩
  · rw [← bt_congr h (Int32.le_trans hi j1)]; exact a2 j j1 j2
  · rw [← bt_congr h (Int32.le_trans hi a1)]; exact a3
theorem pkw_congr {b b' : Nat → Int32} {n p : Int32} (h : ∀ x : Int32, 0 ≤ x → x < n → b x.toNatClampNeg = b' x.toNatClampNeg) (hp : 0 ≤ p ∧ p ≤ 1500) : ∀ m : Nat, m ≤ 7 → pkw b n p m = pkw b' n p m := by
  intro m
  induction m with
  | zero => intro _; rfl
  | succ m ih =>
    intro hm
    rw [pkw, pkw, ih (by omega), bt_congr h]
    have a : (Int32.ofNat m).toInt = (m : Int) := Int32.toInt_ofNat_of_lt (by omega)
    have p0 : (0 : Int) ≤ p.toInt := Int32.le_iff_toInt_le.mp hp.1
    have p1 : p.toInt ≤ 1500 := Int32.le_iff_toInt_le.mp hp.2
    exact Int32.le_iff_toInt_le.mpr (by rw [z_ti_add (by omega) (by omega), a]; show (0 : Int) ≤ _; omega)
theorem Tk_congr {b b' : Nat → Int32} {n p e k : Int32} {w : Int64} (h : ∀ x : Int32, 0 ≤ x → x < n → b x.toNatClampNeg = b' x.toNatClampNeg) (hp : 0 ≤ p ∧ n ≤ 1500) (g : Tk b n p e k w) : Tk b' n p e k w := by
  have e0 : bt b n p = bt b' n p := bt_congr h hp.1
  have e1 : p < n → bt b n (p + 1) = bt b' n (p + 1) := fun q => bt_congr h (by obtain ⟨p0, n1⟩ := hp; clear h g e0; grind)
  rcases g with g | ⟨a1, a2, a3, a4⟩ | ⟨a1, a2, a3, a4, a5⟩ | ⟨a1, a2, a3, a4⟩
  · exact Or.inl g
  · refine Or.inr (Or.inl ⟨a1, e0 ▸ a2, ⟨a3.1, fun j j1 j2 => ?_, ?_⟩, ?_⟩)
    · rw [← bt_congr h (Int32.le_trans hp.1 j1)]; exact a3.2.1 j j1 j2
    · rw [← bt_congr h (Int32.le_trans hp.1 a3.1)]; exact a3.2.2
    · refine a4.imp id fun ⟨c1, c2, c3⟩ => ⟨c1, ?_, c3⟩
      rw [c2]
      refine pkw_congr h ⟨hp.1, Int32.le_trans (Int32.le_of_lt a1) hp.2⟩ _ ?_
      have p0 : (0 : Int) ≤ p.toInt := Int32.le_iff_toInt_le.mp hp.1
      have ee := word_le a3 (Int32.le_of_lt a1)
      have x1 := Int32.le_iff_toInt_le.mp ee
      have x2 : n.toInt ≤ 1500 := Int32.le_iff_toInt_le.mp hp.2
      have x3 := Int32.le_iff_toInt_le.mp a3.1
      have s : (e - p).toInt = e.toInt - p.toInt := by rw [Int32.toInt_sub, Int.bmod_def]; omega
      have x4 : (e - p).toInt ≤ 6 := Int32.le_iff_toInt_le.mp c1
      have x5 := z_nat (a := e - p) (Int32.le_iff_toInt_le.mpr (by rw [s]; show (0 : Int) ≤ _; omega))
      omega
  · refine Or.inr (Or.inr (Or.inl ⟨a1, e0 ▸ a2, a3, e0 ▸ a4, ?_⟩))
    rw [← e0, ← e1 a1]
    exact a5
  · refine Or.inr (Or.inr (Or.inr ⟨a1, e0 ▸ a2, e0 ▸ a3, ?_⟩))
    rw [← e0, ← e1 a1]
    exact a4
theorem zo_add2 {p n : Int32} (h0 : 0 ≤ p) (h : p < n) (h1 : p + 1 < n) (h2 : n ≤ 1500) : p ≤ p + 2 ∧ p + 2 ≤ n := by
  have a0 : (0 : Int) ≤ p.toInt := Int32.le_iff_toInt_le.mp h0
  have a2 : n.toInt ≤ 1500 := Int32.le_iff_toInt_le.mp h2
  have k1 : (1 : Int32).toInt = 1 := rfl
  have k2 : (2 : Int32).toInt = 2 := rfl
  have a1 := Int32.lt_iff_toInt_lt.mp h1
  have a3 := Int32.lt_iff_toInt_lt.mp h
  rw [z_ti_add (by omega) (by omega), k1] at a1
  exact ⟨Int32.le_iff_toInt_le.mpr (by rw [z_ti_add (by omega) (by omega), k2]; omega), Int32.le_iff_toInt_le.mpr (by rw [z_ti_add (by omega) (by omega), k2]; omega)⟩
theorem Tk_le {b : Nat → Int32} {n p e k : Int32} {w : Int64} (h : Tk b n p e k w) (hp : 0 ≤ p ∧ n ≤ 1500) (hn : p ≤ n) : p ≤ e ∧ e ≤ n := by
  obtain ⟨p0, n1⟩ := hp
  rcases h with ⟨a1, a2, a3⟩ | ⟨a1, a2, a3, a4⟩ | ⟨a1, a2, a3, a4, a5⟩ | ⟨a1, a2, a3, a4⟩
  · rw [a3]; exact ⟨Int32.le_rfl, hn⟩
  · exact ⟨a3.1, word_le a3 hn⟩
  · rw [a3]; clear a2 a4 a5 a3; grind
  · rcases a4 with ⟨_, c1, c, _⟩ | ⟨_, c, _⟩
    · have q : p + 1 < n := by
        by_cases q : p + 1 < n
        · exact q
        · rw [bt_out q] at c1; exact absurd c1 (by decide)
      rw [c]; exact zo_add2 p0 a1 q n1
    · rw [c]; clear a2 a3 c; grind
def XA0 (σ r : zS) : Prop := (∀ q, q ≠ 25 → r q = σ q) ∧ (∀ i, i ≠ 6 → i ≠ 7 → i ≠ 8 → r 25 i = σ 25 i)
theorem p_X_adv {σ : zS} {τ : zT} (h1 : σ 25 6 < σ 25 5 - 1) (h2 : σ 25 6 < 1500) (h0 : 0 ≤ σ 25 6 + 1) : zp (zf_Tokens_advance σ τ) (fun r => XA0 σ r.1 ∧ (∀ q, q ≠ 25 → r.2 q = τ q) ∧ r.1 25 6 = σ 25 6 + 1 ∧ r.1 25 7 = σ 26 (σ 25 6 + 1).toNatClampNeg ∧ r.1 25 8 = σ 27 (σ 25 6 + 1).toNatClampNeg ∧ r.2 25 9 = τ 28 (σ 25 6 + 1).toNatClampNeg) := by
  unfold zf_Tokens_advance
  refine zp_ite (fun c => absurd h1 (Int32.not_lt.mpr c)) fun _ => zp_ite (fun c => absurd h2 (Int32.not_lt.mpr c)) fun _ => ?_
  unfold zb_Tokens_advance_33
  have e6 : (zx_up σ 25 6 (σ 25 6 + 1)) 25 6 = σ 25 6 + 1 := by rw [zx_up_same, zu_eq]
  have e26 : (zx_up σ 25 6 (σ 25 6 + 1)) 26 = σ 26 := zu_other (by decide)
  have e27 : (zx_up σ 25 6 (σ 25 6 + 1)) 27 = σ 27 := zu_other (by decide)
  refine zp_ite (fun c => absurd h0 (Int32.not_le.mpr (e6 ▸ c))) fun _ => zp_ite (fun c => ?_) fun _ => zp_chk fun _ => zp_chk fun _ => zp_chk fun _ => zp_some ?_
  · exfalso
    rw [e6] at c
    generalize σ 25 6 = A at *
    clear e6 e26 e27 h1; grind
  · rw [e6, e26, e27]
    refine ⟨⟨fun q hq => ?_, fun i a b c => ?_⟩, fun q hq => zt_other hq, ?_, ?_, ?_, ?_⟩ <;> dsimp only
    · rw [zu_other hq, zu_other hq, zu_other hq]
    · rw [zx_up_same, zu_ne c, zx_up_same, zu_ne b, zx_up_same, zu_ne a]
    · rw [zx_up_same, zu_ne (by decide), zx_up_same, zu_ne (by decide), zx_up_same, zu_eq]
    · rw [zx_up_same, zu_ne (by decide), zx_up_same, zu_eq]
    · rw [zx_up_same, zu_eq]
    · exact zt_at
def TT (b : Nat → Int32) (n : Int32) (σ : zS) (τ : zT) (E : Nat → Int32) (m : Nat) : Prop :=
  E 0 = 0 ∧ ∀ j, j < m → (0 ≤ E j ∧ E j ≤ n) ∧ skipTo b n (E j) (σ 27 j) ∧ Tk b n (σ 27 j) (E (j + 1)) (σ 26 j) (τ 28 j)
def XC (b : Nat → Int32) (n : Int32) (σ : zS) (τ : zT) (E : Nat → Int32) (m a : Nat) : Prop :=
  TT b n σ τ E m ∧ (a < m ∧ m ≤ 1501) ∧ σ 25 5 = Int32.ofNat m ∧ σ 25 6 = Int32.ofNat a ∧ σ 25 7 = σ 26 a ∧ σ 25 8 = σ 27 a ∧ τ 25 9 = τ 28 a ∧ (σ 26 (m - 1) = 0 ∨ σ 26 (m - 1) = 1)
theorem zo_ti {m : Nat} (h : m ≤ 100000) : (Int32.ofNat m).toInt = (m : Int) := Int32.toInt_ofNat_of_lt (by omega)
theorem zo_n {m : Nat} (h : m ≤ 100000) : (Int32.ofNat m).toNatClampNeg = m := by
  have a := zo_ti h
  have b := z_nat (a := Int32.ofNat m) (Int32.le_iff_toInt_le.mpr (by rw [a]; show (0 : Int) ≤ _; omega))
  omega
theorem zo_1 {m : Nat} (h : m ≤ 100000) : Int32.ofNat m + 1 = Int32.ofNat (m + 1) := by
  apply Int32.toInt_inj.mp
  have a := zo_ti h
  have b := zo_ti (m := m + 1) 
  have k1 : (1 : Int32).toInt = 1 := rfl
  rw [z_ti_add (by omega) (by omega), a, k1, Int32.toInt_ofNat_of_lt (by omega)]
  omega
theorem XC.adv {b : Nat → Int32} {n : Int32} {σ : zS} {τ : zT} {E : Nat → Int32} {m a : Nat} (h : XC b n σ τ E m a) (hk : ¬ σ 25 7 = 0 ∧ ¬ σ 25 7 = 1) : zp (zf_Tokens_advance σ τ) (fun r => XA0 σ r.1 ∧ (∀ q, q ≠ 25 → r.2 q = τ q) ∧ XC b n r.1 r.2 E m (a + 1)) := by
  obtain ⟨tt, ⟨am, m1⟩, h5, h6, h7, h8, h9, hl⟩ := h
  have am1 : a + 1 < m := by
    by_cases c : a + 1 < m
    · exact c
    · exfalso
      have : m - 1 = a := by omega
      rw [this, ← h7] at hl
      exact hl.elim hk.1 hk.2
  have e1 := zo_1 (m := a) (by omega)
  have ta := zo_ti (m := a) (by omega)
  have tm := zo_ti (m := m) (by omega)
  have k1 : (1 : Int32).toInt = 1 := rfl
  have sm : (Int32.ofNat m - 1).toInt = (m : Int) - 1 := by rw [Int32.toInt_sub, tm, k1, Int.bmod_def]; omega
  refine zp_mono (p_X_adv (by rw [h5, h6]; exact Int32.lt_iff_toInt_lt.mpr (by omega)) (by rw [h6]; exact Int32.lt_iff_toInt_lt.mpr (by rw [ta]; show (a : Int) < 1500; omega)) (by rw [h6, e1]; exact Int32.le_iff_toInt_le.mpr (by rw [zo_ti (by omega)]; show (0 : Int) ≤ _; omega))) ?_
  rintro r ⟨f, g, r6, r7, r8, r9⟩
  rw [h6, e1] at r6 r7 r8 r9
  rw [zo_n (by omega)] at r7 r8 r9
  have f26 := f.1 26 (by decide)
  have f27 := f.1 27 (by decide)
  have g28 := g 28 (by decide)
  refine ⟨f, g, ?_, ⟨am1, m1⟩, ?_, r6, ?_, ?_, ?_, ?_⟩
  · unfold TT; rw [f26, f27, g28]; exact tt
  · rw [f.2 5 (by decide) (by decide) (by decide)]; exact h5
  · rw [f26]; exact r7
  · rw [f27]; exact r8
  · rw [g28]; exact r9
  · rw [f26]; exact hl
abbrev scanP (σ : zS) (τ : zT) (r : zS × zT) : Prop := (∀ q, q ≠ 25 → q ≠ 26 → q ≠ 27 → r.1 q = σ q) ∧ (∀ q, q ≠ 25 → q ≠ 28 → r.2 q = τ q) ∧ r.1 25 4 = σ 25 4 ∧ ∃ E m, XC (σ 3) (σ 25 4) r.1 r.2 E m 0
theorem p_X_scan19 {N : Nat} {σ : zS} {τ : zT} (rs : RS τ) (hn : 0 ≤ σ 25 4 ∧ σ 25 4 ≤ 1500) : ∀ (n : Nat) (ρ : zS) (τ' : zT) (v2 : Int32) (m : Nat) (E : Nat → Int32), (∀ q, q ≠ 25 → q ≠ 26 → q ≠ 27 → ρ q = σ q) → (∀ q, q ≠ 25 → q ≠ 28 → τ' q = τ q) → ρ 25 4 = σ 25 4 → TT (σ 3) (σ 25 4) ρ τ' E m → E m = v2 → (0 ≤ v2 ∧ v2 ≤ σ 25 4) → m ≤ 1501 → ρ 25 5 = Int32.ofNat m → (0 < m → ρ 25 7 = ρ 26 (m - 1)) → (m = 0 → ρ 25 7 = 3) → (¬ ρ 25 7 = 0 → (m : Int) ≤ v2.toInt) → zp (zb_Tokens_scan_19 N n ρ τ' v2 (Int32.ofNat m)) (scanP σ τ) := by
  intro n
  induction n with
  | zero => intro _ _ _ _ _ _ _ _ _ _ _ _ _ _ _ _; exact zp_none
  | succ n ih =>
    intro ρ τ' v2 m E fr ft e4 tt eE hv hm h5 hl hz hg
    rw [zb_Tokens_scan_19]
    have fin : (0 < m) → (ρ 25 7 = 0 ∨ ρ 25 7 = 1) → zp (zb_Tokens_scan_93 N ρ τ') (scanP σ τ) := by
      intro m0 hk
      unfold zb_Tokens_scan_93
      have k6 : (zx_up ρ 25 6 (-1)) 25 6 = -1 := by rw [zx_up_same, zu_eq]
      have k5 : (zx_up ρ 25 6 (-1)) 25 5 = Int32.ofNat m := by rw [zx_up_same, zu_ne (by decide)]; exact h5
      have tm := zo_ti (m := m) (by omega)
      have k1 : (1 : Int32).toInt = 1 := rfl
      have sm : (Int32.ofNat m - 1).toInt = (m : Int) - 1 := by rw [Int32.toInt_sub, tm, k1, Int.bmod_def]; omega
      refine zp_bind (zp_mono (p_X_adv (by rw [k5, k6]; exact Int32.lt_iff_toInt_lt.mpr (by rw [sm]; show (-1 : Int) < _; omega)) (by rw [k6]; decide) (by rw [k6]; decide)) ?_)
      rintro r ⟨f, g, r6, r7, r8, r9⟩
      rw [k6] at r6 r7 r8 r9
      have z0 : ((-1 : Int32) + 1).toNatClampNeg = 0 := rfl
      have z1 : (-1 : Int32) + 1 = 0 := rfl
      rw [z0] at r7 r8 r9
      rw [z1] at r6
      have fq : ∀ q, q ≠ 25 → r.1 q = ρ q := fun q hq => (f.1 q hq).trans (zu_other hq)
      have f26 := fq 26 (by decide)
      have f27 := fq 27 (by decide)
      have g28 := g 28 (by decide)
      refine zp_some ⟨fun q a b c => (fq q a).trans (fr q a b c), fun q a b => (g q a).trans (ft q a b), ?_, E, m, ?_, ⟨m0, hm⟩, ?_, r6, ?_, ?_, ?_, ?_⟩
      · rw [f.2 4 (by decide) (by decide) (by decide), zx_up_same, zu_ne (by decide)]; exact e4
      · unfold TT; rw [f26, f27, g28]; exact tt
      · rw [f.2 5 (by decide) (by decide) (by decide)]; exact k5
      · rw [f26, r7, zu_other (by decide)]
      · rw [f27, r8, zu_other (by decide)]
      · rw [g28, r9]
      · rw [f26, ← hl m0]; exact hk
    have tm := zo_ti (m := m) (by omega)
    have v2b : v2.toInt ≤ 1500 := by
      have a := Int32.le_iff_toInt_le.mp hv.2
      have b : (σ 25 4).toInt ≤ 1500 := Int32.le_iff_toInt_le.mp hn.2
      omega
    refine zp_ite (fun c => ?_) fun c => zp_ite (fun d => ?_) fun d => zp_ite (fun d1 => ?_) fun d1 => ?_
    · have c' : (1500 : Int) < m := by have := Int32.lt_iff_toInt_lt.mp c; rw [tm] at this; exact this
      refine fin (by omega) (Or.inl ?_)
      by_cases q : ρ 25 7 = 0
      · exact q
      · have := hg q; omega
    · refine fin ?_ (Or.inl d)
      by_cases q : m = 0
      · rw [hz q] at d; exact absurd d (by decide)
      · omega
    · refine fin ?_ (Or.inr d1)
      by_cases q : m = 0
      · rw [hz q] at d1; exact absurd d1 (by decide)
      · omega
    · have c' : (m : Int) ≤ 1500 := by have := Int32.le_iff_toInt_le.mp (Int32.not_lt.mp c); rw [tm] at this; exact this
      have rs' : RS τ' := by unfold RS at rs ⊢; rw [ft 1 (by decide) (by decide)]; exact rs
      refine zp_bind (zp_mono (p_X_token rs' ⟨hv.1, by rw [e4]; exact hn.2⟩) ?_)
      rintro ⟨e, x, y⟩ ⟨s1, x1, y1, -, tk⟩
      dsimp only at s1 x1 y1 tk ⊢
      rw [fr 3 (by decide) (by decide) (by decide), e4] at s1 tk
      refine zp_chk fun _ => zp_chk fun _ => zp_chk fun _ => ?_
      rw [zo_n (by omega), zo_1 (by omega)]
      have p0 : 0 ≤ x 25 8 := Int32.le_trans hv.1 s1.1
      have pn : x 25 8 ≤ σ 25 4 := skip_le s1 hv.2
      have el := Tk_le tk ⟨p0, hn.2⟩ pn
      have xq : ∀ q, q ≠ 25 → x q = ρ q := x1.1
      have e25 : ∀ i, (zx_up (zx_up (zx_up x 26 m (x 25 7)) 27 m (x 25 8)) 25 5 (x 25 5 + 1)) 25 i = if i = 5 then x 25 5 + 1 else x 25 i := by
        intro i
        by_cases q : i = 5
        · rw [if_pos q, q, zx_up_same, zu_eq]
        · rw [if_neg q, zx_up_same, zu_ne q, zu_other (by decide), zu_other (by decide)]
      have e26 : ∀ i, (zx_up (zx_up (zx_up x 26 m (x 25 7)) 27 m (x 25 8)) 25 5 (x 25 5 + 1)) 26 i = if i = m then x 25 7 else ρ 26 i := by
        intro i
        rw [zu_other (by decide), zu_other (by decide), zx_up_same]
        by_cases q : i = m
        · rw [if_pos q, q, zu_eq]
        · rw [if_neg q, zu_ne q, xq 26 (by decide)]
      have e27 : ∀ i, (zx_up (zx_up (zx_up x 26 m (x 25 7)) 27 m (x 25 8)) 25 5 (x 25 5 + 1)) 27 i = if i = m then x 25 8 else ρ 27 i := by
        intro i
        rw [zu_other (by decide), zx_up_same]
        by_cases q : i = m
        · rw [if_pos q, q, zu_eq]
        · rw [if_neg q, zu_ne q, zu_other (by decide), xq 27 (by decide)]
      have e28 : ∀ i, (zx_up y 28 m (y 25 9)) 28 i = if i = m then y 25 9 else τ' 28 i := by
        intro i
        by_cases q : i = m
        · rw [if_pos q, q, zt_at]
        · rw [if_neg q, zt_ne q, y1 28 (by decide)]
      have E1 : (fun j => if j ≤ m then E j else e) (m + 1) = e := if_neg (by omega)
      have Em : ∀ j, j ≤ m → (fun j => if j ≤ m then E j else e) j = E j := fun j h => if_pos h
      refine ih _ _ e (m + 1) (fun j => if j ≤ m then E j else e) ?_ ?_ ?_ ?_ E1 ⟨Int32.le_trans p0 el.1, el.2⟩ (by omega) ?_ ?_ ?_ ?_
      · intro q a b c
        rw [zu_other a, zu_other c, zu_other b, xq q a]
        exact fr q a b c
      · intro q a b
        rw [zt_other b, y1 q a]
        exact ft q a b
      · rw [e25, if_neg (by decide), x1.2 4 (by decide) (by decide)]
        exact e4
      · refine ⟨by rw [Em 0 (Nat.zero_le _)]; exact tt.1, fun j hj => ?_⟩
        rw [e26, e27, e28]
        by_cases q : j = m
        · subst q
          rw [if_pos rfl, if_pos rfl, if_pos rfl, Em j (Nat.le_refl _), E1, eE]
          exact ⟨hv, s1, tk⟩
        · rw [if_neg q, if_neg q, if_neg q, Em j (by omega), Em (j + 1) (by omega)]
          exact tt.2 j (by omega)
      · rw [e25, if_pos rfl, x1.2 5 (by decide) (by decide), h5, zo_1 (by omega)]
      · intro _
        rw [e25, if_neg (by decide), e26, if_pos (by omega)]
      · intro q; omega
      · rw [e25, if_neg (by decide)]
        intro q
        have a := (Tk_on tk ⟨p0, hn.2⟩ q).1
        have a1 := Int32.lt_iff_toInt_lt.mp a
        have a2 := Int32.le_iff_toInt_le.mp s1.1
        have a3 := hg d
        omega
theorem p_X_scan {N : Nat} {σ : zS} {τ : zT} {x : Int32} (rs : RS τ) (hx : 0 ≤ x ∧ x ≤ 1500) : zp (zf_Tokens_scan N σ τ x) (fun r => (∀ q, q ≠ 25 → q ≠ 26 → q ≠ 27 → r.1 q = σ q) ∧ (∀ q, q ≠ 25 → q ≠ 28 → r.2 q = τ q) ∧ r.1 25 4 = x ∧ ∃ E m, XC (σ 3) x r.1 r.2 E m 0) := by
  unfold zf_Tokens_scan
  generalize hX : zx_up (zx_up (zx_up σ 25 4 x) 25 5 0) 25 7 3 = X
  have fq : ∀ q, q ≠ 25 → X q = σ q := fun q hq => by rw [← hX, zu_other hq, zu_other hq, zu_other hq]
  have e4 : X 25 4 = x := by rw [← hX, zx_up_same, zu_ne (by decide), zx_up_same, zu_ne (by decide), zx_up_same, zu_eq]
  have e5 : X 25 5 = 0 := by rw [← hX, zx_up_same, zu_ne (by decide), zx_up_same, zu_eq]
  have e7 : X 25 7 = 3 := by rw [← hX, zx_up_same, zu_eq]
  clear hX
  have := p_X_scan19 (N := N) (σ := X) (τ := τ) rs (by rw [e4]; exact hx) N X τ 0 0 (fun _ => 0) (fun _ _ _ _ => rfl) (fun _ _ _ => rfl) rfl ⟨rfl, fun j hj => absurd hj (Nat.not_lt_zero _)⟩ rfl ⟨Int32.le_rfl, by rw [e4]; exact hx.1⟩ (by omega) (by rw [e5]; rfl) (fun h => absurd h (Nat.lt_irrefl _)) (fun _ => e7) (fun _ => by decide)
  refine zp_mono this ?_
  rintro r ⟨a, b, c, E, m, d⟩
  rw [e4] at c d
  rw [fq 3 (by decide)] at d
  exact ⟨fun q h1 h2 h3 => (a q h1 h2 h3).trans (fq q h1), b, c, E, m, d⟩
def TB (b : Nat → Int32) (n : Int32) (K P : Nat → Int32) (W : Nat → Int64) (E : Nat → Int32) (m : Nat) : Prop :=
  (∀ j, j < m → (0 ≤ E j ∧ E j ≤ n) ∧ skipTo b n (E j) (P j) ∧ Tk b n (P j) (E (j + 1)) (K j) (W j)) ∧ (K (m - 1) = 0 ∨ K (m - 1) = 1) ∧ E 0 = 0 ∧ 0 < m ∧ m ≤ 1501 ∧ n ≤ 1500
def XAt (K P : Nat → Int32) (W : Nat → Int64) (m : Nat) (ρ : zS) (τ : zT) (a : Nat) : Prop :=
  ρ 26 = K ∧ ρ 27 = P ∧ τ 28 = W ∧ ρ 25 5 = Int32.ofNat m ∧ ρ 25 6 = Int32.ofNat a ∧ ρ 25 7 = K a ∧ ρ 25 8 = P a ∧ τ 25 9 = W a ∧ a < m
def MAt (K P : Nat → Int32) (W : Nat → Int64) (E : Nat → Int32) (m : Nat) (μ : zS) (a : Nat) : Prop :=
  μ 82 5 = P a ∧ μ 82 5 + μ 82 6 = E (a + 1) ∧ mkd (K a) (W a) (μ 82 7) (μ 82 8) ∧ a < m
theorem XC.tb {b b' : Nat → Int32} {n : Int32} {σ : zS} {τ : zT} {E : Nat → Int32} {m a : Nat} (h : XC b n σ τ E m a) (hn : n ≤ 1500) (hb : ∀ x : Int32, 0 ≤ x → x < n → b x.toNatClampNeg = b' x.toNatClampNeg) : TB b' n (σ 26) (σ 27) (τ 28) E m ∧ XAt (σ 26) (σ 27) (τ 28) m σ τ a := by
  obtain ⟨tt, ⟨am, m1⟩, h5, h6, h7, h8, h9, hl⟩ := h
  refine ⟨⟨fun j hj => ?_, hl, tt.1, by omega, m1, hn⟩, rfl, rfl, rfl, h5, h6, h7, h8, h9, am⟩
  obtain ⟨x1, x2, x3⟩ := tt.2 j hj
  exact ⟨x1, skipTo_congr hb x1.1 x2, Tk_congr hb ⟨Int32.le_trans x1.1 x2.1, hn⟩ x3⟩
theorem TB.lt {b : Nat → Int32} {n : Int32} {K P : Nat → Int32} {W : Nat → Int64} {E : Nat → Int32} {m a : Nat} (h : TB b n K P W E m) (ha : a < m) (hk : ¬ K a = 0 ∧ ¬ K a = 1) : a + 1 < m := by
  by_cases c : a + 1 < m
  · exact c
  · exfalso
    have e : m - 1 = a := by omega
    have hl := h.2.1
    rw [e] at hl
    exact hl.elim hk.1 hk.2
theorem XAt.adv {b : Nat → Int32} {n : Int32} {K P : Nat → Int32} {W : Nat → Int64} {E : Nat → Int32} {m a : Nat} {ρ : zS} {τ : zT} (tb : TB b n K P W E m) (h : XAt K P W m ρ τ a) (hk : ¬ K a = 0 ∧ ¬ K a = 1) : zp (zf_Tokens_advance ρ τ) (fun r => XAt K P W m r.1 r.2 (a + 1) ∧ XA0 ρ r.1 ∧ (∀ q, q ≠ 25 → r.2 q = τ q)) := by
  obtain ⟨h26, h27, h28, h5, h6, h7, h8, h9, am⟩ := h
  have am1 := tb.lt am hk
  have m1 := tb.2.2.2.2.1
  have e1 := zo_1 (m := a) (by omega)
  have ta := zo_ti (m := a) (by omega)
  have tm := zo_ti (m := m) (by omega)
  have k1 : (1 : Int32).toInt = 1 := rfl
  have sm : (Int32.ofNat m - 1).toInt = (m : Int) - 1 := by rw [Int32.toInt_sub, tm, k1, Int.bmod_def]; omega
  refine zp_mono (p_X_adv (by rw [h5, h6]; exact Int32.lt_iff_toInt_lt.mpr (by omega)) (by rw [h6]; exact Int32.lt_iff_toInt_lt.mpr (by rw [ta]; show (a : Int) < 1500; omega)) (by rw [h6, e1]; exact Int32.le_iff_toInt_le.mpr (by rw [zo_ti (by omega)]; show (0 : Int) ≤ _; omega))) ?_
  rintro r ⟨f, g, r6, r7, r8, r9⟩
  rw [h6, e1] at r6 r7 r8 r9
  rw [zo_n (by omega)] at r7 r8 r9
  refine ⟨⟨(f.1 26 (by decide)).trans h26, (f.1 27 (by decide)).trans h27, (g 28 (by decide)).trans h28, ?_, r6, ?_, ?_, ?_, am1⟩, f, g⟩
  · rw [f.2 5 (by decide) (by decide) (by decide)]; exact h5
  · rw [r7, h26]
  · rw [r8, h27]
  · rw [r9, h28]
theorem mkd.of {k : Int32} {w w' : Int64} {a b : Int32} (h : mkd k w a b) (e : k = 2 ∨ k = 3 → w = w') : mkd k w' a b := by
  rcases h with h | h | ⟨h1, h2, h3, h4⟩ | h | h | h | h | h
  · exact Or.inl h
  · exact Or.inr (Or.inl h)
  · exact Or.inr (Or.inr (Or.inl ⟨h1, h2, (e (Or.inl h1)).symm.trans h3, h4⟩))
  · exact Or.inr (Or.inr (Or.inr (Or.inl h)))
  · exact Or.inr (Or.inr (Or.inr (Or.inr (Or.inl h))))
  · exact Or.inr (Or.inr (Or.inr (Or.inr (Or.inr (Or.inl h)))))
  · exact Or.inr (Or.inr (Or.inr (Or.inr (Or.inr (Or.inr (Or.inl h))))))
  · exact Or.inr (Or.inr (Or.inr (Or.inr (Or.inr (Or.inr (Or.inr h))))))
theorem p_M_at {N : Nat} {K P : Nat → Int32} {W : Nat → Int64} {E : Nat → Int32} {m a : Nat} {μ : zS} (tb : TB (μ 84) (μ 82 4) K P W E m) (ha : a < m) (he : μ 82 5 + μ 82 6 = E a) : zp (zf_M_next N μ) (fun ν => MAt K P W E m ν a ∧ NX0 μ ν) := by
  obtain ⟨x1, x2, x3⟩ := tb.1 a ha
  refine zp_mono (p_M_next (by rw [he]; exact ⟨x1.1, tb.2.2.2.2.2⟩)) ?_
  rintro ν ⟨f, s, k, w, t, md⟩
  rw [he] at s
  have ep := skipTo_one s x2
  rw [ep] at t
  obtain ⟨e1, e2, e3⟩ := Tk_one t x3
  subst e2
  exact ⟨⟨ep, by rw [ep]; exact e1, md.of e3, ha⟩, f⟩
theorem MAt.nx {N : Nat} {K P : Nat → Int32} {W : Nat → Int64} {E : Nat → Int32} {m a : Nat} {μ : zS} (tb : TB (μ 84) (μ 82 4) K P W E m) (h : MAt K P W E m μ a) (hk : ¬ K a = 0 ∧ ¬ K a = 1) : zp (zf_M_next N μ) (fun ν => MAt K P W E m ν (a + 1) ∧ NX0 μ ν) :=
  p_M_at tb (tb.lt h.2.2.2 hk) h.2.1
def pkf (f : Nat → Int32) : Nat → Int64
  | 0 => 0
  | m + 1 => (zJ_lshl (pkf f m) 8) ||| (f m).toInt64
def pkn (f : Nat → Int32) : Nat → Nat
  | 0 => 0
  | m + 1 => pkn f m * 256 + (f m).toNatClampNeg
theorem pkw_pkf {b : Nat → Int32} {n p : Int32} : ∀ m, pkw b n p m = pkf (fun i => bt b n (p + Int32.ofNat i)) m := by
  intro m
  induction m with
  | zero => rfl
  | succ m ih => rw [pkw, pkf, ih]
theorem pkf_congr {f g : Nat → Int32} : ∀ m, (∀ i, i < m → f i = g i) → pkf f m = pkf g m := by
  intro m
  induction m with
  | zero => intro _; rfl
  | succ m ih => intro h; rw [pkf, pkf, ih (fun i hi => h i (by omega)), h m (by omega)]
theorem i64_nat {x : Int64} (h : 0 ≤ x.toInt) : (x.toBitVec.toNat : Int) = x.toInt := by
  have e : x.toInt = x.toBitVec.toInt := rfl
  rw [e] at h ⊢
  cases hm : x.toBitVec.msb with
  | false => exact (BitVec.toInt_eq_toNat_of_msb hm).symm
  | true =>
    exfalso
    have := BitVec.toInt_neg_of_msb_true hm
    omega
theorem lshl8 {x : Int64} {k : Nat} (h : x.toBitVec.toNat = k) (hk : k < 2 ^ 55) : (zJ_lshl x 8).toBitVec.toNat = k * 256 := by
  have e : ((8 : Int32).toInt64 &&& 63) = 8 := by decide
  unfold zJ_lshl
  rw [e, Int64.toBitVec_shiftLeft]
  have e2 : (8 : Int64).toBitVec.smod 64 = 8#64 := by decide
  rw [e2]
  show (x.toBitVec <<< 8).toNat = _
  rw [BitVec.toNat_shiftLeft, h, Nat.shiftLeft_eq]
  omega
theorem pkf_nat {f : Nat → Int32} : ∀ m, m ≤ 6 → (∀ i, i < m → 0 ≤ f i ∧ f i ≤ 255) → (pkf f m).toBitVec.toNat = pkn f m ∧ pkn f m < 256 ^ m := by
  intro m
  induction m with
  | zero => intro _ _; exact ⟨rfl, Nat.one_pos⟩
  | succ m ih =>
    intro hm h
    obtain ⟨a, b⟩ := ih (by omega) (fun i hi => h i (by omega))
    obtain ⟨c0, c1⟩ := h m (by omega)
    have t0 : (0 : Int) ≤ (f m).toInt := Int32.le_iff_toInt_le.mp c0
    have t1 : (f m).toInt ≤ 255 := Int32.le_iff_toInt_le.mp c1
    have n0 := z_nat c0
    have p6 : 256 ^ m ≤ 256 ^ 5 := Nat.pow_le_pow_right (by decide) (by omega)
    have sm : pkn f m < 2 ^ 55 := by
      have : (256 : Nat) ^ 5 < 2 ^ 55 := by decide
      omega
    have l := lshl8 a sm
    have c : (f m).toInt64.toBitVec.toNat = (f m).toNatClampNeg := by
      have e : (f m).toInt64.toInt = (f m).toInt := Int32.toInt_toInt64 _
      have := i64_nat (x := (f m).toInt64) (by omega)
      omega
    rw [pkf, pkn]
    constructor
    · show (zJ_lshl (pkf f m) 8 ||| (f m).toInt64).toBitVec.toNat = _
      rw [Int64.toBitVec_or, BitVec.toNat_or, l, c]
      have := Nat.shiftLeft_add_eq_or_of_lt (b := (f m).toNatClampNeg) (i := 8) (by omega) (pkn f m)
      rw [Nat.shiftLeft_eq] at this
      exact this.symm
    · rw [Nat.pow_succ]
      omega
theorem pkn_inj {f g : Nat → Int32} : ∀ m m', (∀ i, i < m → 1 ≤ f i ∧ f i ≤ 255) → (∀ i, i < m' → 1 ≤ g i ∧ g i ≤ 255) → pkn f m = pkn g m' → m = m' ∧ ∀ i, i < m → f i = g i := by
  intro m
  induction m with
  | zero =>
    intro m' hf hg e
    cases m' with
    | zero => exact ⟨rfl, fun i hi => absurd hi (Nat.not_lt_zero _)⟩
    | succ m' =>
      exfalso
      have h := (hg m' (by omega)).1
      have t := Int32.le_iff_toInt_le.mp h
      have n := z_nat (Int32.le_trans (by decide) h)
      have k1 : (1 : Int32).toInt = 1 := rfl
      rw [pkn, pkn] at e
      omega
  | succ m ih =>
    intro m' hf hg e
    have hm := hf m (by omega)
    have tf := Int32.le_iff_toInt_le.mp hm.1
    have tf2 : (f m).toInt ≤ 255 := Int32.le_iff_toInt_le.mp hm.2
    have nf := z_nat (Int32.le_trans (by decide) hm.1)
    have k1 : (1 : Int32).toInt = 1 := rfl
    cases m' with
    | zero => exfalso; rw [pkn, pkn] at e; omega
    | succ m' =>
      have hm' := hg m' (by omega)
      have tg := Int32.le_iff_toInt_le.mp hm'.1
      have tg2 : (g m').toInt ≤ 255 := Int32.le_iff_toInt_le.mp hm'.2
      have ng := z_nat (Int32.le_trans (by decide) hm'.1)
      rw [pkn, pkn] at e
      obtain ⟨e1, e2⟩ := ih m' (fun i hi => hf i (by omega)) (fun i hi => hg i (by omega)) (by omega)
      subst e1
      refine ⟨rfl, fun i hi => ?_⟩
      by_cases q : i = m
      · subst q
        exact Int32.toInt_inj.mp (by omega)
      · exact e2 i (by omega)
theorem pkf_inj {f g : Nat → Int32} {m m' : Nat} (h1 : m ≤ 6) (h2 : m' ≤ 6) (hf : ∀ i, i < m → 1 ≤ f i ∧ f i ≤ 255) (hg : ∀ i, i < m' → 1 ≤ g i ∧ g i ≤ 255) (e : pkf f m = pkf g m') : m = m' ∧ ∀ i, i < m → f i = g i := by
  have a := (pkf_nat m h1 (fun i hi => ⟨Int32.le_trans (by decide) (hf i hi).1, (hf i hi).2⟩)).1
  have b := (pkf_nat m' h2 (fun i hi => ⟨Int32.le_trans (by decide) (hg i hi).1, (hg i hi).2⟩)).1
  exact pkn_inj m m' hf hg (by rw [← a, ← b, e])
def Nm (μ : zS) (pl : Nat) (w : Int64) : Prop := ∃ s : Nat, 1 ≤ s ∧ s ≤ 6 ∧ μ 86 pl = Int32.ofNat s ∧ (∀ i, i < s → 1 ≤ μ 85 (6 * pl + i) ∧ μ 85 (6 * pl + i) ≤ 127) ∧ w = pkf (fun i => μ 85 (6 * pl + i)) s
def Cur (μ : zS) (w : Int64) : Prop := ∃ s : Nat, 1 ≤ s ∧ s ≤ 6 ∧ μ 82 6 = Int32.ofNat s ∧ (0 ≤ μ 82 5 ∧ (μ 82 5).toNatClampNeg + s ≤ 1500) ∧ (∀ i, i < s → 1 ≤ μ 84 ((μ 82 5).toNatClampNeg + i) ∧ μ 84 ((μ 82 5).toNatClampNeg + i) ≤ 127) ∧ w = pkf (fun i => μ 84 ((μ 82 5).toNatClampNeg + i)) s
theorem Nm.of {μ ν : zS} {pl : Nat} {w : Int64} (h : Nm μ pl w) (e5 : ∀ i, i < 6 → ν 85 (6 * pl + i) = μ 85 (6 * pl + i)) (e6 : ν 86 pl = μ 86 pl) : Nm ν pl w := by
  obtain ⟨s, a, b, c, d, e⟩ := h
  refine ⟨s, a, b, e6.trans c, fun i hi => by rw [e5 i (by omega)]; exact d i hi, ?_⟩
  rw [e]
  exact pkf_congr s fun i hi => (e5 i (by omega)).symm
theorem zo_add {p : Int32} {i : Nat} (h0 : 0 ≤ p) (hi : p.toNatClampNeg + i ≤ 100000) : (p + Int32.ofNat i).toNatClampNeg = p.toNatClampNeg + i ∧ 0 ≤ p + Int32.ofNat i ∧ (p + Int32.ofNat i).toInt = p.toInt + i := by
  have a := zo_ti (m := i) (by omega)
  have n := z_nat h0
  have e := z_ti_add (a := p) (b := Int32.ofNat i) (by omega) (by omega)
  have q : 0 ≤ p + Int32.ofNat i := Int32.le_iff_toInt_le.mpr (by rw [e]; show (0 : Int) ≤ _; omega)
  have x := z_nat q
  exact ⟨by omega, q, by omega⟩
theorem zo_six {pl i : Nat} (h : pl ≤ 1000) (hi : i ≤ 1000) : (6 * Int32.ofNat pl + Int32.ofNat i).toNatClampNeg = 6 * pl + i := by
  have e : 6 * Int32.ofNat pl = Int32.ofNat (6 * pl) := by
    apply Int32.toInt_inj.mp
    have k6 : (6 : Int32).toInt = 6 := rfl
    rw [Int32.toInt_mul, zo_ti (by omega), zo_ti (by omega), k6, Int.bmod_def]
    omega
  rw [e]
  have := zo_add (p := Int32.ofNat (6 * pl)) (i := i) (Int32.le_iff_toInt_le.mpr (by rw [zo_ti (by omega)]; show (0 : Int) ≤ _; omega)) (by rw [zo_n (by omega)]; omega)
  rw [zo_n (by omega)] at this
  exact this.1
theorem Nm.same {μ : zS} {pl : Nat} {w v : Int64} (h : Nm μ pl w) (g : Cur μ v) : w = v ↔ (μ 86 pl = μ 82 6 ∧ ∀ i : Nat, Int32.ofNat i < μ 82 6 → i ≤ 6 → μ 85 (6 * pl + i) = μ 84 ((μ 82 5).toNatClampNeg + i)) := by
  obtain ⟨s, a, b, c, d, e⟩ := h
  obtain ⟨t, a', b', c', p', d', e'⟩ := g
  have lt : ∀ i : Nat, i ≤ 6 → (Int32.ofNat i < Int32.ofNat t ↔ i < t) := by
    intro i hi
    rw [Int32.lt_iff_toInt_lt, zo_ti (by omega), zo_ti (by omega)]
    omega
  constructor
  · intro q
    rw [e, e'] at q
    obtain ⟨q1, q2⟩ := pkf_inj b b' (fun i hi => ⟨(d i hi).1, Int32.le_trans (d i hi).2 (by decide)⟩) (fun i hi => ⟨(d' i hi).1, Int32.le_trans (d' i hi).2 (by decide)⟩) q
    refine ⟨by rw [c, c', q1], fun i hi hi6 => ?_⟩
    rw [c'] at hi
    exact q2 i (by have := (lt i hi6).mp hi; omega)
  · rintro ⟨q1, q2⟩
    rw [c, c'] at q1
    have st : s = t := by
      have x := zo_n (m := s) (by omega)
      have y := zo_n (m := t) (by omega)
      rw [q1, y] at x
      exact x.symm
    subst st
    rw [e, e']
    refine pkf_congr s fun i hi => q2 i ?_ (by omega)
    rw [c']
    exact (lt i (by omega)).mpr hi
theorem p_M_find32 {k2 : zS → Int32 → Int32 → Int32 → Option Int32} {N : Nat} {μ : zS} {v1 v2 v3 : Int32} {pl : Nat} {w v : Int64} {Q : Int32 → Prop} (hpl : v1 + v3 = Int32.ofNat pl) (hp : pl < 200) (nm : Nm μ pl w) (cur : Cur μ v) (no : w ≠ v → zp (k2 μ v1 v2 (v3 + 1)) Q) (yes : w = v → Q v3) : ∀ (n i : Nat) (v4 : Int32), i ≤ 6 → (v4 = 0 → w ≠ v) → (v4 ≠ 0 → μ 86 pl = μ 82 6 ∧ ∀ j, j < i → μ 85 (6 * pl + j) = μ 84 ((μ 82 5).toNatClampNeg + j)) → zp (zb_M_find_32 k2 N n μ v1 v2 v3 v4 (Int32.ofNat i)) Q := by
  have c6 : ∀ i : Nat, i ≤ 6 → Int32.ofNat i < μ 82 6 → i < 6 := by
    intro i hi q
    obtain ⟨t, a', b', c', p', d', e'⟩ := cur
    rw [c', Int32.lt_iff_toInt_lt, zo_ti (by omega), zo_ti (by omega)] at q
    omega
  have p5 := cur.choose_spec.2.2.2.1
  have s6 := cur.choose_spec.2.2.1
  have s1 := cur.choose_spec.2.1
  generalize cur.choose = s at p5 s6 s1
  intro n
  induction n with
  | zero => intro _ _ _ _ _; exact zp_none
  | succ n ih =>
    intro i v4 hi h0 h1
    rw [zb_M_find_32]
    have out : (Int32.ofNat i < μ 82 6 → v4 = 0) → zp (zb_M_find_88 k2 N μ v1 v2 v3 v4) Q := by
      intro q
      unfold zb_M_find_88
      refine zp_ite (fun c => no (h0 c)) fun c => zp_some (yes ((nm.same cur).mpr ⟨(h1 c).1, fun j hj _ => (h1 c).2 j ?_⟩))
      have ge : ¬ Int32.ofNat i < μ 82 6 := fun x => c (q x)
      rw [Int32.lt_iff_toInt_lt, zo_ti (by omega)] at ge hj
      omega
    refine zp_ite (fun c => out fun q => absurd q (Int32.not_lt.mpr c)) fun c => zp_ite (fun d => out fun _ => d) fun d => zp_chk fun _ => zp_chk fun _ => ?_
    have c' := Int32.not_le.mp c
    have i6 := c6 i hi c'
    rw [hpl, zo_six (by omega) (by omega), (zo_add p5.1 (by omega)).1]
    refine zp_ite (fun e => ?_) fun e => ?_
    · unfold zb_M_find_80
      rw [zo_1 (by omega)]
      refine ih (i + 1) 0 (by omega) (fun _ q => e (((nm.same cur).mp q).2 i c' (by omega))) (fun q => absurd rfl q)
    · unfold zb_M_find_80
      rw [zo_1 (by omega)]
      refine ih (i + 1) 1 (by omega) (fun q => absurd q (by decide)) fun _ => ⟨(h1 d).1, fun j hj => ?_⟩
      by_cases q : j = i
      · rw [q]; exact Classical.not_not.mp e
      · exact (h1 d).2 j (by omega)
theorem p_M_find {N : Nat} {μ : zS} {fr c : Nat} {ws : Nat → Int64} {v : Int64} (hf : fr + c ≤ 200) (nm : ∀ k, k < c → Nm μ (fr + k) (ws k)) (cur : Cur μ v) : zp (zf_M_find N μ (Int32.ofNat fr) (Int32.ofNat c)) (fun r => (r = -1 ∧ ∀ k, k < c → ws k ≠ v) ∨ (∃ k, k < c ∧ r = Int32.ofNat k ∧ ws k = v ∧ ∀ j, j < k → ws j ≠ v)) := by
  unfold zf_M_find
  have go : ∀ (n k : Nat), k ≤ c → (∀ j, j < k → ws j ≠ v) → zp (zb_M_find_2 N n μ (Int32.ofNat fr) (Int32.ofNat c) (Int32.ofNat k)) (fun r => (r = -1 ∧ ∀ k, k < c → ws k ≠ v) ∨ (∃ k, k < c ∧ r = Int32.ofNat k ∧ ws k = v ∧ ∀ j, j < k → ws j ≠ v)) := by
    intro n
    induction n with
    | zero => intro _ _ _; exact zp_none
    | succ n ih =>
      intro k hk h
      rw [zb_M_find_2]
      refine zp_ite (fun q => zp_some (Or.inl ⟨rfl, fun j hj => h j ?_⟩)) fun q => ?_
      · rw [Int32.le_iff_toInt_le, zo_ti (by omega), zo_ti (by omega)] at q
        omega
      · have kc : k < c := by
          rw [Int32.le_iff_toInt_le, zo_ti (by omega), zo_ti (by omega)] at q
          omega
        have e : Int32.ofNat fr + Int32.ofNat k = Int32.ofNat (fr + k) := by
          apply Int32.toInt_inj.mp
          have a := zo_ti (m := fr) (by omega)
          have b := zo_ti (m := k) (by omega)
          rw [z_ti_add (by omega) (by omega), a, b, zo_ti (by omega)]
          omega
        have hit := fun (x : Int32) hx0 hx1 => p_M_find32 (k2 := zb_M_find_2 N n) (N := N) (v2 := Int32.ofNat c) (v3 := Int32.ofNat k) (Q := fun r => (r = -1 ∧ ∀ k, k < c → ws k ≠ v) ∨ (∃ k, k < c ∧ r = Int32.ofNat k ∧ ws k = v ∧ ∀ j, j < k → ws j ≠ v)) e (by omega) (nm k kc) cur (fun ne => by
            rw [zo_1 (by omega)]
            refine ih (k + 1) (by omega) fun j hj => ?_
            by_cases qq : j = k
            · rw [qq]; exact ne
            · exact h j (by omega)) (fun eq => Or.inr ⟨k, kc, rfl, eq, h⟩) N 0 x (by omega) hx0 hx1
        refine zp_chk fun _ => zp_ite (fun d => ?_) fun d => ?_
        · unfold zb_M_find_27
          refine hit 0 (fun _ x => d ?_) (fun x => absurd rfl x)
          rw [e, zo_n (by omega)]
          exact (((nm k kc).same cur).mp x).1
        · unfold zb_M_find_27
          refine hit 1 (fun x => absurd x (by decide)) (fun _ => ⟨?_, fun j hj => absurd hj (Nat.not_lt_zero _)⟩)
          have := Classical.not_not.mp d
          rw [e, zo_n (by omega)] at this
          exact this
  exact go N 0 (Nat.zero_le _) fun j hj => absurd hj (Nat.not_lt_zero _)
