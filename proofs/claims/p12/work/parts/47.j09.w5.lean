-- both answer alike
set_option maxRecDepth 2000
theorem WVX.opn {c len : Nat → Nat} {d : Nat} {s m st : Int32} {ρ ρ1 μ r ν : zS} (w1 : ∀ t, t + 1 < c 2 → WRT t (len t) ρ μ) (w2 : WRC (c 2 - 1) (len (c 2 - 1)) ρ μ) (w3 : MKS (c 2 - 1) (len (c 2 - 1)) d ρ μ) (w4 : WAY (c 2 - 1) (len (c 2 - 1)) d ρ μ) (x : XA0 ρ ρ1) (e : ENT s m d ρ1 r) (o : OBM s st d μ ν) (s4 : s ≠ 4) (s0 : (s = 0 ↔ d = 0) ∧ (s = 0 ∨ s = 1 ∨ s = 2 ∨ s = 3 ∨ s = 4 ∨ s = 5)) (hm : (s = 3 ∨ s = 5) → ∃ z, z < len (c 2 - 1) ∧ m = Int32.ofNat z ∧ st = Int32.ofNat z ∧ (μ 92 (24 * (c 2 - 1) + z) = 5 ∨ μ 92 (24 * (c 2 - 1) + z) = 6)) (h1 : s = 1 → ∃ z, z < len (c 2 - 1) ∧ st = Int32.ofNat z ∧ m = μ 93 (24 * (c 2 - 1) + z) ∧ μ 96 (24 * (c 2 - 1) + z) = ρ 29 11 ∧ μ 82 40 = ρ 29 11 ||| zJ_shl 1 m) (hh : r 29 11 = ν 82 40) : WVX c len (d + 1) r ν := by
  have er : ∀ q, q = 8 ∨ q = 9 ∨ q = 10 ∨ q = 11 ∨ q = 12 → r q = ρ q := fun q hq => by rw [e.1 q (by omega) (by omega) (by omega) (by omega) (by omega) (by omega) (by omega), x.1 q (by omega)]
  have en : ∀ q, q ≠ 82 → q ≠ 103 → q ≠ 104 → q ≠ 106 → ν q = μ q := o.1
  have e29 : ∀ i, i = 9 ∨ i = 10 → r 29 i = ρ 29 i := fun i hi => by rw [e.2.2.2.2.1 i (by omega) (by omega) (by omega), x.1 29 (by decide)]
  have n37 : ν 82 37 = μ 82 37 := o.2.1 37 (by decide) (by decide) (by decide) (by decide) (by decide)
  have blk : ∀ i, i ≠ d → r 31 i = ρ 31 i ∧ r 32 i = ρ 32 i ∧ r 33 i = ρ 33 i ∧ r 34 i = ρ 34 i := fun i hi => by
    obtain ⟨_, a, b, k, l⟩ := e.2.2.1 i hi
    rw [a, b, k, l, x.1 31 (by decide), x.1 32 (by decide), x.1 33 (by decide), x.1 34 (by decide)]
    exact ⟨rfl, rfl, rfl, rfl⟩
  have bln : ∀ i, i ≠ d → ν 103 i = μ 103 i ∧ ν 104 i = μ 104 i ∧ ν 106 i = μ 106 i := fun i hi => o.2.2.2.2 i hi
  have n105 : ν 105 = μ 105 := en 105 (by decide) (by decide) (by decide) (by decide)
  have n92 : ν 92 = μ 92 := en 92 (by decide) (by decide) (by decide) (by decide)
  refine ⟨fun t ht => (w1 t ht).of er (fun q hq => en q (by omega) (by omega) (by omega) (by omega)), fun _ => ⟨w2.of er (fun q hq => en q (by omega) (by omega) (by omega) (by omega)), fun i hi => ?_, ⟨fun lo cl => ?_, fun i hi h4 l cl => ?_⟩, hh⟩⟩
  · by_cases q : i = d
    · subst q
      rw [o.2.2.2.1.1, o.2.2.2.1.2.1, o.2.2.2.1.2.2, e.2.1.2.1, e.2.1.2.2.2.2, x.1 29 (by decide), n92, en 93 (by decide) (by decide) (by decide) (by decide), en 96 (by decide) (by decide) (by decide) (by decide)]
      refine ⟨s0, fun q => ?_, fun q => ?_⟩
      · obtain ⟨z, z1, z2, z3, z4⟩ := hm (by rcases q with q | q | q; exact Or.inl q; exact absurd q s4; exact Or.inr q)
        exact ⟨z, z1, z2, z3, z4⟩
      · obtain ⟨z, z1, z2, z3, z4, z5⟩ := h1 q
        exact ⟨z, z1, z2, z3, z4, z5⟩
    · obtain ⟨b1, b2, b3⟩ := bln i q
      obtain ⟨k1, _, _, k4⟩ := blk i q
      rw [b1, b2, b3, k1, k4, n92, en 93 (by decide) (by decide) (by decide) (by decide), en 96 (by decide) (by decide) (by decide) (by decide)]
      exact w3 i (by omega)
  · rw [en 102 (by decide) (by decide) (by decide) (by decide), n37] at cl
    rw [n92, e29 9 (by decide), e29 10 (by decide)]
    exact w4.1 lo cl
  · by_cases q : i = d
    · subst q
      rw [o.2.2.2.1.1] at h4
      exact absurd h4 s4
    · rw [(bln i q).1] at h4
      rw [en 102 (by decide) (by decide) (by decide) (by decide), n105] at cl
      rw [n92, (blk i q).2.1, (blk i q).2.2.1]
      exact w4.2 i (by omega) h4 l cl
def FN1 (t L : Nat) (ρ r : zS) : Prop := CO0 ρ r ∧ RWB t 24 (Int32.ofNat L) (ρ 29 10) (ρ 10) (r 10) ∧ (∀ j, (24 * t ≤ j ∧ j < 24 * t + L ∧ ρ 7 j = 13) → r 9 j = Int32.ofNat L) ∧ (∀ j, ¬ (24 * t ≤ j ∧ j < 24 * t + L ∧ ρ 7 j = 13) → (((24 * t ≤ j ∧ j < 24 * t + 24 ∧ bit (ρ 29 9) (j - 24 * t)) → r 9 j = Int32.ofNat L) ∧ (¬ (24 * t ≤ j ∧ j < 24 * t + 24 ∧ bit (ρ 29 9) (j - 24 * t)) → r 9 j = ρ 9 j)))
theorem p_X_finish1 {N t L : Nat} {ρ : zS} (h8 : ρ 29 8 = Int32.ofNat t) (ht : t < 4) (h5 : ρ 5 t = Int32.ofNat L) (hL : L ≤ 24) : zp (zf_Weaver_finishThread N ρ) (fun r => FN1 t L ρ r) := by
  unfold zf_Weaver_finishThread
  rw [h8]
  refine zp_bind (zp_mono (p_X_lengthOf ht) fun r1 e1 => ?_)
  rw [e1, h5]
  refine zp_bind (zp_mono (p_X_closeOpen1 h8 ht) fun r2 co => ?_)
  obtain ⟨c, c9, c10, w9, w10⟩ := co
  have go : ∀ (n s : Nat) (r : zS), s ≤ L → (∀ q, q ≠ 9 → r q = r2 q) → (∀ j, (24 * t ≤ j ∧ j < 24 * t + s ∧ ρ 7 j = 13) → r 9 j = Int32.ofNat L) → (∀ j, ¬ (24 * t ≤ j ∧ j < 24 * t + s ∧ ρ 7 j = 13) → r 9 j = r2 9 j) → zp (zb_Weaver_finishThread_19 N n r (Int32.ofNat L) (Int32.ofNat s)) (fun r => FN1 t L ρ r) := by
    intro n
    induction n with
    | zero => intro _ _ _ _ _ _; exact zp_none
    | succ n ih =>
      intro s r hs fr y1 y2
      have fin : s = L → FN1 t L ρ r := by
        intro e
        subst e
        refine ⟨⟨fun q a b d => by rw [fr q a]; exact c.1 q a b d, fun i a b => by rw [fr 29 (by decide)]; exact c.2 i a b⟩, by rw [fr 10 (by decide)]; exact w10, y1, fun j hj => ?_⟩
        rw [y2 j hj]
        exact w9 j
      rw [zb_Weaver_finishThread_19]
      refine zp_ite (fun q => zp_some (fin ?_)) fun q => zp_ite (fun q2 => zp_some (fin ?_)) fun q2 => ?_
      · have := (zo_le (k := L) (j := s) (by omega) (by omega)).mp q
        omega
      · have := (zo_le (k := 24) (j := s) (by omega) (by omega)).mp q2
        omega
      · have lt : s < L := by
          have : ¬ L ≤ s := fun w => q ((zo_le (by omega) (by omega)).mpr w)
          omega
        have e8 : r 29 8 = Int32.ofNat t := by rw [fr 29 (by decide), c.2 8 (by decide) (by decide)]; exact h8
        have e5 : r 5 t = Int32.ofNat L := by rw [fr 5 (by decide), c.1 5 (by decide) (by decide) (by decide)]; exact h5
        have e7 : r 7 = ρ 7 := by rw [fr 7 (by decide), c.1 7 (by decide) (by decide) (by decide)]
        rw [e8]
        refine zp_bind (zp_mono (p_X_slotOf ht (by omega) (by rw [e5]; exact (zo_lt (by omega) (by omega)).mpr lt)) fun r5 h5' => ?_)
        subst h5'
        rw [zo_n (by omega), e7]
        unfold zb_Weaver_finishThread_67
        rw [zo_1 (by omega)]
        refine zp_chk fun _ => zp_ite (fun k => ih (s + 1) r (by omega) fr (fun j hj => ?_) (fun j hj => y2 j fun w => hj ⟨w.1, by omega, w.2.2⟩)) fun k => zp_chk fun _ => ih (s + 1) _ (by omega) (fun q hq => by rw [zu_other hq]; exact fr q hq) (fun j hj => ?_) (fun j hj => ?_)
        · by_cases e : j = 24 * t + s
          · rw [e] at hj; exact absurd hj.2.2 k
          · exact y1 j ⟨hj.1, by omega, hj.2.2⟩
        · rw [zx_up_same]
          by_cases e : j = 24 * t + s
          · rw [e, zu_eq]
          · rw [zu_ne e]; exact y1 j ⟨hj.1, by omega, hj.2.2⟩
        · rw [zx_up_same]
          by_cases e : j = 24 * t + s
          · subst e
            exact absurd ⟨by omega, by omega, Classical.not_not.mp k⟩ hj
          · rw [zu_ne e]; exact y2 j fun w => hj ⟨w.1, by omega, w.2.2⟩
  exact go N 0 r2 (by omega) (fun _ _ => rfl) (fun j hj => by omega) (fun j _ => rfl)
theorem p_M_155W {N t L : Nat} {μ : zS} {lo : List Nat} (h9 : μ 82 9 = 0) (h39 : μ 82 39 = Int32.ofNat t) (ht : t < 4) (h90 : μ 90 t = Int32.ofNat L) (hL : L ≤ 24) (hc : Ch (μ 102) lo (μ 82 37)) : zp (zb_M_readThread_155 N μ) (fun ν => (∀ j, ν 95 j = if 24 * t ≤ j ∧ 2 * (j - 24 * t) + 1 ∈ lo then Int32.ofNat L else μ 95 j) ∧ (∀ s, s < L → (μ 92 (24 * t + s) = 13 → ν 94 (24 * t + s) = Int32.ofNat L) ∧ (μ 92 (24 * t + s) ≠ 13 → (2 * s ∈ lo → ν 94 (24 * t + s) = Int32.ofNat L) ∧ (2 * s ∉ lo → ν 94 (24 * t + s) = μ 94 (24 * t + s)))) ∧ (∀ j, j < 24 * t → ν 94 j = μ 94 j) ∧ (∀ q, q ≠ 82 → q ≠ 94 → q ≠ 95 → ν q = μ q)) := by
  unfold zb_M_readThread_155
  rw [h39, zo_n (by omega), h90]
  have tbm : tb μ = 24 * t := by unfold tb; rw [h39, zo_n (by omega)]
  refine zp_ite (fun _ => zp_chk fun _ => zp_bind (zp_mono (p_M_lead1 (lo := lo) (by rw [h39]; exact ⟨(zo_le (k := 0) (j := t) (by omega) (by omega)).mpr (Nat.zero_le _), (zo_lt (k := t) (j := 4) (by omega) (by omega)).mpr ht⟩) hc) fun r13 fl => ?_)) fun q => absurd h9 q
  have e39 : r13 82 39 = Int32.ofNat t := by rw [fl.ff 39 (by decide)]; exact h39
  have e90 : r13 90 = μ 90 := fl.fr 90 (by decide) (by decide) (by decide)
  have e92 : r13 92 = μ 92 := fl.fr 92 (by decide) (by decide) (by decide)
  have go : ∀ (n s : Nat) (r : zS), s ≤ L → (∀ q, q ≠ 94 → r q = r13 q) → (∀ j, j < s → μ 92 (24 * t + j) = 13 → r 94 (24 * t + j) = Int32.ofNat L) → (∀ j, (¬ (24 * t ≤ j ∧ j < 24 * t + s ∧ μ 92 j = 13)) → r 94 j = r13 94 j) → zp (zb_M_readThread_178 N n r (Int32.ofNat s)) (fun ν => (∀ j, ν 95 j = if 24 * t ≤ j ∧ 2 * (j - 24 * t) + 1 ∈ lo then Int32.ofNat L else μ 95 j) ∧ (∀ s, s < L → (μ 92 (24 * t + s) = 13 → ν 94 (24 * t + s) = Int32.ofNat L) ∧ (μ 92 (24 * t + s) ≠ 13 → (2 * s ∈ lo → ν 94 (24 * t + s) = Int32.ofNat L) ∧ (2 * s ∉ lo → ν 94 (24 * t + s) = μ 94 (24 * t + s)))) ∧ (∀ j, j < 24 * t → ν 94 j = μ 94 j) ∧ (∀ q, q ≠ 82 → q ≠ 94 → q ≠ 95 → ν q = μ q)) := by
    intro n
    induction n with
    | zero => intro _ _ _ _ _ _; exact zp_none
    | succ n ih =>
      intro s r hs fr y1 y2
      have f39 : r 82 39 = Int32.ofNat t := by rw [fr 82 (by decide)]; exact e39
      rw [zb_M_readThread_178, f39, zo_n (m := t) (by omega), fr 90 (by decide), e90, h90]
      refine zp_chk fun _ => zp_ite (fun q => zp_some ?_) fun q => zp_chk fun _ => ?_
      · have es : s = L := by
          have := (zo_le (k := L) (j := s) (by omega) (by omega)).mp q
          omega
        subst es
        refine ⟨fun j => ?_, fun z hz => ⟨fun k => y1 z hz k, fun k => ⟨fun m => ?_, fun m => ?_⟩⟩, fun j hj => ?_, fun q a b d => ?_⟩
        · rw [fr 95 (by decide), fl.b5, tbm]
        · rw [y2 _ fun w => k w.2.2, fl.b4, tbm, if_pos ⟨by omega, by rw [show 24 * t + z - 24 * t = z by omega]; exact m⟩]
        · rw [y2 _ fun w => k w.2.2, fl.b4, tbm, if_neg (fun w => m (by have := w.2; rw [show 24 * t + z - 24 * t = z by omega] at this; exact this))]
        · rw [y2 j fun w => by omega, fl.b4, tbm, if_neg (fun w => by omega)]
        · rw [fr q b, fl.fr q a b d]
      · have lt : s < L := by
          have : ¬ L ≤ s := fun w => q ((zo_le (by omega) (by omega)).mpr w)
          omega
        have sl := z24 ht (show s ≤ 24 by omega)
        rw [sl.2.2.2, zo_n (m := 24 * t + s) (by omega), fr 92 (by decide), e92]
        unfold zb_M_readThread_235
        rw [zo_n (m := 24 * t + s) (by omega), zo_1 (by omega)]
        refine zp_ite (fun k => zp_chk fun _ => zp_chk fun _ => ih (s + 1) _ (by omega) (fun q hq => by rw [zu_other hq]; exact fr q hq) (fun j hj k' => ?_) (fun j hj => ?_)) fun k => zp_chk fun _ => zp_chk fun _ => ih (s + 1) _ (by omega) (fun q hq => by rw [zu_other hq]; exact fr q hq) (fun j hj k' => ?_) (fun j hj => ?_)
        · rw [zx_up_same]
          by_cases e : j = s
          · rw [e] at k'; exact absurd k' k
          · rw [zu_ne (by omega)]; exact y1 j (by omega) k'
        · rw [zx_up_same]
          by_cases e : j = 24 * t + s
          · rw [e, zu_eq]
            exact y2 _ fun w => by omega
          · rw [zu_ne e]; exact y2 j fun w => hj ⟨w.1, by omega, w.2.2⟩
        · rw [zx_up_same]
          by_cases e : j = s
          · rw [e, zu_eq]
          · rw [zu_ne (by omega)]; exact y1 j (by omega) k'
        · rw [zx_up_same]
          by_cases e : j = 24 * t + s
          · subst e
            exact absurd ⟨by omega, by omega, Classical.not_not.mp k⟩ hj
          · rw [zu_ne e]; exact y2 j fun w => hj ⟨w.1, by omega, w.2.2⟩
  exact go N 0 r13 (by omega) (fun _ _ => rfl) (fun j hj => absurd hj (Nat.not_lt_zero _)) (fun j _ => rfl)
theorem WVP.fin {t n : Nat} {ρ μ ν : zS} {lo : List Nat} (h : WVP t n ρ μ) (hc : Ch (μ 102) lo (μ 82 37)) (h95 : ∀ j, ν 95 j = if 24 * t ≤ j ∧ 2 * (j - 24 * t) + 1 ∈ lo then Int32.ofNat n else μ 95 j) (h94 : ∀ s, s < n → (μ 92 (24 * t + s) = 13 → ν 94 (24 * t + s) = Int32.ofNat n) ∧ (μ 92 (24 * t + s) ≠ 13 → (2 * s ∈ lo → ν 94 (24 * t + s) = Int32.ofNat n) ∧ (2 * s ∉ lo → ν 94 (24 * t + s) = μ 94 (24 * t + s)))) (f : ∀ q, q ≠ 82 → q ≠ 94 → q ≠ 95 → ν q = μ q) : WRT t n ρ ν := by
  intro s hs
  obtain ⟨⟨a1, a2, a3⟩, ⟨b1, b2, b3⟩, k1, k2⟩ := h lo hc s hs
  have e92 := f 92 (by decide) (by decide) (by decide)
  obtain ⟨g1, g2⟩ := h94 s hs
  refine ⟨⟨by rw [f 96 (by decide) (by decide) (by decide)]; exact a1, by rw [f 97 (by decide) (by decide) (by decide)]; exact a2, ?_, by rw [e92]; exact b3, by rw [e92, f 93 (by decide) (by decide) (by decide)]; exact a3⟩, ?_, by rw [e92]; exact k1⟩
  · rw [h95, show 24 * t + s - 24 * t = s by omega]
    by_cases q : 2 * s + 1 ∈ lo
    · rw [if_pos ⟨by omega, q⟩]; exact b1 q
    · rw [if_neg fun w => q w.2]; exact b2 q
  · by_cases q : μ 92 (24 * t + s) = 13
    · rw [k1 q, g1 q]
    · by_cases m : 2 * s ∈ lo
      · rw [(k2 q).1 m, (g2 q).1 m]
      · rw [(k2 q).2 m, (g2 q).2 m]
