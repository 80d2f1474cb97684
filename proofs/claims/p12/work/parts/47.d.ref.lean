-- every method answers: totality within bounds, by invariants of the two states
set_option maxRecDepth 2000
/-! A SPAN AT ONCE -/
theorem RR.of {σ r : zS} (h : RR σ) (e17 : r 82 17 = σ 82 17) (e54 : r 82 54 = σ 82 54) (e60 : r 82 60 = σ 82 60) (e : ∀ q, q = 90 ∨ q = 93 ∨ q = 111 ∨ q = 114 ∨ q = 115 → r q = σ q) (e8 : ∀ i, i < 160000 → r 108 i = σ 108 i) : RR r := by
  have e90 := e 90 (by simp); have e93 := e 93 (by simp); have e111 := e 111 (by simp); have e114 := e 114 (by simp); have e115 := e 115 (by simp)
  obtain ⟨a, b, c, d, f, g⟩ := h
  refine ⟨by rw [e54]; exact a, by rw [e54, e111]; exact b, by rw [e60]; exact c, by rw [e60, e54, e115]; exact d, by rw [e54, e114]; exact f, ?_⟩
  rw [e54, e90, e93, e17]
  intro s s0 s1
  refine NW.congr ?_ (g s s0 s1)
  intro i hi
  refine e8 _ ?_
  have h1 : s < 4000 := by (first | with_reducible assumption | omega | grind)
  have h2 := z_natlt (b := 4000) s0 h1
  have h3 : (4000 : Int32).toNatClampNeg = 4000 := rfl
  omega
theorem RR.jn {σ r : zS} (h : RR σ) (j : JN σ r) : RR r :=
  h.of (by rw [j.fr 82 (by decide)]) (by rw [j.fr 82 (by decide)]) (by rw [j.fr 82 (by decide)]) (fun q hq => j.fr q (by omega)) (fun i _ => by rw [j.fr 108 (by decide)])
theorem RR.pt {σ r : zS} {v : Int32} (h : RR σ) (h4 : σ 82 51 = 4000) (p : PT σ r v) : RR r :=
  h.of (p.ff 17 (by decide)) (p.ff 54 (by decide)) (p.ff 60 (by decide)) (fun q hq => p.fr q (by omega) (by omega) (by omega) (by omega)) (fun i hi => p.lo i (by rw [h4]; exact hi))
def KW (σb ρ : zS) (o c : Int32) : Prop :=
  (FQ σb ρ) ∧
  (RR ρ) ∧
  (PG ρ) ∧
  (RI ρ) ∧
  (ρ 82 51 = 4000) ∧
  (ρ 82 53 = σb 82 53) ∧
  (ρ 82 62 = σb 82 62) ∧
  (0 ≤ o ∧ o ≤ 4000 ∧ o + 4000 ≤ c) ∧
  (∀ k : Int32, 0 ≤ k → k < o → 4000 ≤ ρ 117 k.toNatClampNeg ∧ ρ 117 k.toNatClampNeg < 8000)
theorem KW.fq {σb ρ : zS} {o c : Int32} (h : KW σb ρ o c) : FQ σb ρ := h.1
theorem KW.rr {σb ρ : zS} {o c : Int32} (h : KW σb ρ o c) : RR ρ := h.2.1
theorem KW.pg {σb ρ : zS} {o c : Int32} (h : KW σb ρ o c) : PG ρ := h.2.2.1
theorem KW.ri {σb ρ : zS} {o c : Int32} (h : KW σb ρ o c) : RI ρ := h.2.2.2.1
theorem KW.f4 {σb ρ : zS} {o c : Int32} (h : KW σb ρ o c) : ρ 82 51 = 4000 := h.2.2.2.2.1
theorem KW.z3 {σb ρ : zS} {o c : Int32} (h : KW σb ρ o c) : ρ 82 53 = σb 82 53 := h.2.2.2.2.2.1
theorem KW.z2 {σb ρ : zS} {o c : Int32} (h : KW σb ρ o c) : ρ 82 62 = σb 82 62 := h.2.2.2.2.2.2.1
theorem KW.oc {σb ρ : zS} {o c : Int32} (h : KW σb ρ o c) : 0 ≤ o ∧ o ≤ 4000 ∧ o + 4000 ≤ c := h.2.2.2.2.2.2.2.1
theorem KW.so {σb ρ : zS} {o c : Int32} (h : KW σb ρ o c) : ∀ k : Int32, 0 ≤ k → k < o → 4000 ≤ ρ 117 k.toNatClampNeg ∧ ρ 117 k.toNatClampNeg < 8000 := h.2.2.2.2.2.2.2.2
theorem KW.jn {σb ρ r : zS} {o c : Int32} (h : KW σb ρ o c) (j : JN ρ r) : KW σb r o c := by
  have e82 : r 82 = ρ 82 := j.fr 82 (by decide)
  exact ⟨h.fq.trans (FQ.jn j), h.rr.jn j, j.pg, h.ri.of (fun q hq => j.fr q (by omega)), by rw [e82]; exact h.f4, by rw [e82]; exact h.z3, by rw [e82]; exact h.z2, h.oc, by rw [j.fr 117 (by decide)]; exact h.so⟩
theorem KW.pt {σb ρ r : zS} {o c v : Int32} (h : KW σb ρ o c) (p : PT ρ r v) : KW σb r o c :=
  ⟨h.fq.trans (FQ.pt p), h.rr.pt h.f4 p, PG.of2 (fun q x y => p.fr q x (by omega) (by omega) (by omega)) ⟨p.ff _ (by decide), p.ff _ (by decide), p.ff _ (by decide), p.ff _ (by decide)⟩ h.pg, p.ri, by rw [p.ff 51 (by decide)]; exact h.f4, by rw [p.ff 53 (by decide)]; exact h.z3, by rw [p.ff 62 (by decide)]; exact h.z2, h.oc, by rw [p.fr 117 (by decide) (by decide) (by decide) (by decide)]; exact h.so⟩
theorem KW.row {σb ρ : zS} {o c : Int32} (h : KW σb ρ o c) {t : Int32} (ht : 4000 ≤ t ∧ t < 4000 + ρ 82 52) : (0 ≤ t ∧ t < 8000) ∧ NW (fun i => ρ 108 (40 * t.toNatClampNeg + i)) (ρ 90) (ρ 93) (ρ 82 17) := by
  have f4 := h.f4
  have fo := h.ri.fo
  exact ⟨by (first | with_reducible assumption | omega | grind), h.ri.rw t (by rw [f4]; exact ht.1) (by rw [f4]; exact ht.2)⟩
theorem KW.jz {σb ρ : zS} {o c : Int32} (h : KW σb ρ o c) : JZ ρ ρ := ⟨fun _ _ => rfl, h.pg⟩
theorem z_w {o c f : Int32} (ho : 0 ≤ o ∧ o ≤ 4000 ∧ o + 4000 ≤ c) (hc : 4000 ≤ c ∧ c < 4000 + f) (hf : 0 ≤ f ∧ f ≤ 4000) : (0 ≤ o ∧ o < 4000) ∧ (0 ≤ o + 1 ∧ o + 1 ≤ 4000 ∧ o + 1 + 4000 ≤ c + 1) ∧ (0 ≤ o ∧ o ≤ 4000 ∧ o + 4000 ≤ c + 1) ∧ (4000 ≤ c ∧ c < 8000) ∧ (4000 ≤ c + 1 ∧ c + 1 ≤ 4000 + f) := by
  have a0 : 0 ≤ o.toInt := Int32.le_iff_toInt_le.mp ho.1
  have a1 : o.toInt ≤ 4000 := Int32.le_iff_toInt_le.mp ho.2.1
  have k4 : (4000 : Int32).toInt = 4000 := rfl
  have k1 : (1 : Int32).toInt = 1 := rfl
  have k0 : (0 : Int32).toInt = 0 := rfl
  have k8 : (8000 : Int32).toInt = 8000 := rfl
  have e1 := z_ti_add (a := o) (b := 4000) (by omega) (by omega)
  have a2 := Int32.le_iff_toInt_le.mp ho.2.2
  have f0 : 0 ≤ f.toInt := Int32.le_iff_toInt_le.mp hf.1
  have f1 : f.toInt ≤ 4000 := Int32.le_iff_toInt_le.mp hf.2
  have e2 := z_ti_add (a := 4000) (b := f) (by omega) (by omega)
  have c0 : 4000 ≤ c.toInt := Int32.le_iff_toInt_le.mp hc.1
  have c1 := Int32.lt_iff_toInt_lt.mp hc.2
  have e3 := z_ti_add (a := c) (b := 1) (by omega) (by omega)
  have e4 := z_ti_add (a := o) (b := 1) (by omega) (by omega)
  have e5 := z_ti_add (a := o + 1) (b := 4000) (by omega) (by omega)
  simp only [Int32.le_iff_toInt_le, Int32.lt_iff_toInt_lt]
  omega
theorem z_atr {r x : Int32} (hr : r = 14 + 6 * x) (hx : 0 ≤ x ∧ x < 4) : 0 ≤ r ∧ r < 40 := by grind
theorem z_lt24 {p g : Int32} (h : 0 ≤ p ∧ p ≤ g) (l : p < g) (s : 0 ≤ g ∧ g ≤ 24) : 0 ≤ p ∧ p < 24 := by grind
theorem z_fo {v a b c : Int32} (h : v < 4000 + a) (h1 : a ≤ b) (ha : 0 ≤ a ∧ a ≤ 4000) (hb : 0 ≤ b ∧ b ≤ 4000) : v < 4000 + b := by
  have a0 : 0 ≤ a.toInt := Int32.le_iff_toInt_le.mp ha.1
  have a1 : a.toInt ≤ 4000 := Int32.le_iff_toInt_le.mp ha.2
  have b0 : 0 ≤ b.toInt := Int32.le_iff_toInt_le.mp hb.1
  have b1 : b.toInt ≤ 4000 := Int32.le_iff_toInt_le.mp hb.2
  have k4 : (4000 : Int32).toInt = 4000 := rfl
  have e1 := z_ti_add (a := 4000) (b := a) (by omega) (by omega)
  have e2 := z_ti_add (a := 4000) (b := b) (by omega) (by omega)
  have h' := Int32.lt_iff_toInt_lt.mp h
  have h1' := Int32.le_iff_toInt_le.mp h1
  apply Int32.lt_iff_toInt_lt.mpr
  omega
theorem z_w1 {o k : Int32} (h0 : 0 ≤ k) (h : k < o + 1) (ho : 0 ≤ o ∧ o < 4000) (w : ¬ k = o) : k < o := by grind
theorem z_w2 {o c v : Int32} (ho : 0 ≤ o ∧ o ≤ 4000 ∧ o + 4000 ≤ c) (h : 0 ≤ v ∧ v < o) : 0 ≤ v ∧ v < 4000 := by grind
theorem z_w3 {v : Int32} (h : 4000 ≤ v ∧ v < 8000) : 0 ≤ v ∧ v < 8000 := by grind
theorem z_w4 {v a : Int32} (h : 0 ≤ v ∧ v < a) (ha : a ≤ 4000) : (0 ≤ v ∧ v < 8000) ∧ (0 ≤ v ∧ v < 4000) := by grind
theorem q_f_M_whole {N : Nat} (hN : zBig ≤ N) {σ : zS} {x1 : Int32} {Q : Int32 × zS → Prop} (hG : ¬ σ 82 53 = 0 → PG σ ∧ RR σ) (hQ : ∀ r, FQ σ r.2 → (¬ σ 82 53 = 0 → RR r.2) → r.2 82 53 = σ 82 53 → r.2 82 62 = σ 82 62 → Q r) : zq (zf_M_whole N σ x1) Q := by
  have fin : ∀ (o c v : Int32) (ρ : zS), KW σ ρ o c → Q (v, ρ) := fun o c v ρ h => hQ _ h.fq (fun _ => h.rr) h.z3 h.z2
  have K414 : ∀ (k396 : zS → Int32 → Int32 → Int32 → Option (Int32 × zS)) (ρ : zS) (v4 v6 c : Int32), KW σ ρ v4 c → (c ≤ 8000 ∧ 0 ≤ v6 ∧ v6 < v4) → (∀ v7, zq (k396 ρ v4 v7 (v6 + 1)) Q) → ∀ (n : Nat) (v7 v8 : Int32), 0 ≤ v8 → zmu v8 < n → zq (zb_M_whole_414 k396 N n ρ v4 v6 v7 v8) Q := by
    intro k396 ρ v4 v6 c hK h6 hk n
    induction n with
    | zero => intro _ _ _ hn; exact absurd hn (Nat.not_lt_zero _)
    | succ n ih =>
      intro v7 v8 h0 hn
      have rc := hK.rr.oc
      have rs := hK.rr.st
      have oc := hK.oc
      rw [zb_M_whole_414]
      refine zq_ite (fun c1 => hk v7) fun c1 => ?_
      refine zq_ite (fun c2 => ?_) fun c2 => ?_
      · exact ih 1 (v8 + 1) (by (first | with_reducible assumption | omega | grind)) (zmu_up c1 hn)
      · refine zq_chk (z_w2 oc h6.2) fun _ => zq_chk (z_w4 ⟨h0, Int32.not_le.mp c1⟩ rc.2).2 fun _ => ?_
        have so := hK.so v6 h6.2.1 h6.2.2
        have ou := hK.rr.ou v8 h0 (Int32.not_le.mp c1)
        refine zq_bind (q_f_M_isOutcome hN (σ0 := ρ) hK.pg ⟨z_w3 so, (z_w4 ou rs.2).1⟩ fun r17 => ?_)
        refine zq_ite (fun c => ?_) fun c => ?_
        · exact ih 0 (v8 + 1) (by (first | with_reducible assumption | omega | grind)) (zmu_up c1 hn)
        · exact ih 1 (v8 + 1) (by (first | with_reducible assumption | omega | grind)) (zmu_up c1 hn)
  have K396 : ∀ (ρ : zS) (v4 c : Int32), KW σ ρ v4 c → c ≤ 8000 → ∀ (n : Nat) (v5 v6 : Int32), 0 ≤ v6 → zmu v6 < n → zq (zb_M_whole_396 N n ρ v4 v5 v6) Q := by
    intro ρ v4 c hK hc n
    have out : ∀ v5, zq (zb_M_whole_472 N ρ v5) Q := fun v5 => by
      unfold zb_M_whole_472
      exact zq_ite (fun _ => fin v4 c _ _ hK) fun _ => fin v4 c _ _ hK
    induction n with
    | zero => intro _ _ _ hn; exact absurd hn (Nat.not_lt_zero _)
    | succ n ih =>
      intro v5 v6 h0 hn
      rw [zb_M_whole_396]
      refine zq_ite (fun c1 => out v5) fun c1 => ?_
      refine zq_ite (fun c2 => out v5) fun c2 => ?_
      exact K414 _ ρ v4 v6 c hK ⟨hc, h0, Int32.not_le.mp c1⟩ (fun v7 => ih v7 (v6 + 1) (by (first | with_reducible assumption | omega | grind)) (zmu_up c1 hn)) N 0 0 (by decide) (zmu_lt hN _)
  have K313 : ∀ (k63 : zS → Int32 → Int32 → Int32 → Int32 → Option (Int32 × zS)) (v1 v2 v5 : Int32) (ρ : zS) (v4 : Int32), KW σ ρ v4 v5 → (4000 ≤ v5 ∧ v5 < 4000 + ρ 82 52) → (∀ r o, KW σ r o (v5 + 1) → r 82 52 = ρ 82 52 → zq (k63 r v1 v2 o (v5 + 1)) Q) → ∀ (n : Nat) (v8 v9 : Int32), 0 ≤ v9 → zmu v9 < n → zq (zb_M_whole_313 k63 N n ρ v1 v2 v4 v5 v8 v9) Q := by
    intro k63 v1 v2 v5 ρ v4 hK h5 hk n
    have oc := hK.oc
    have fo := hK.ri.fo
    have W := z_w oc h5 fo
    have out : ∀ v8, zq (zb_M_whole_354 k63 N ρ v1 v2 v4 v5 v8) Q := fun v8 => by
      unfold zb_M_whole_354
      refine zq_ite (fun _ => ?_) fun _ => ?_
      · exact hk ρ v4 ⟨hK.fq, hK.rr, hK.pg, hK.ri, hK.f4, hK.z3, hK.z2, W.2.2.1, hK.so⟩ rfl
      · refine zq_chk W.1 fun _ => ?_
        have E : ∀ p, p ≠ 117 → (zx_up ρ 117 v4.toNatClampNeg v5) p = ρ p := fun p a => zu_other a
        have E82 := E 82 (by decide)
        refine hk _ (v4 + 1) ⟨FQ.up (by decide) hK.fq, hK.rr.of (by rw [E82]) (by rw [E82]) (by rw [E82]) (fun q hq => E q (by omega)) (fun i _ => by rw [E 108 (by decide)]), PG.of (fun q _ b => E q (by omega)) hK.pg, hK.ri.of (fun q hq => E q (by omega)), by rw [E82]; exact hK.f4, by rw [E82]; exact hK.z3, by rw [E82]; exact hK.z2, W.2.1, ?_⟩ (by rw [E82])
        intro k k0 k1
        rw [zx_up_same]
        by_cases w : k = v4
        · rw [w, zu_eq]; exact W.2.2.2.1
        · rw [zu_ne (fun e => w (z_inj k0 oc.1 e))]
          exact hK.so k k0 (z_w1 k0 k1 W.1 w)
    induction n with
    | zero => intro _ _ _ hn; exact absurd hn (Nat.not_lt_zero _)
    | succ n ih =>
      intro v8 v9 h0 hn
      rw [zb_M_whole_313]
      refine zq_ite (fun c1 => out v8) fun c1 => ?_
      refine zq_ite (fun c2 => out v8) fun c2 => ?_
      refine zq_chk (z_w2 oc ⟨h0, Int32.not_le.mp c1⟩) fun _ => ?_
      have so := hK.so v9 h0 (Int32.not_le.mp c1)
      refine zq_bind (q_f_M_isOutcome hN (σ0 := ρ) hK.pg ⟨z_w3 so, z_w3 W.2.2.2.1⟩ fun r28 => ?_)
      refine zq_ite (fun c => ?_) fun c => ?_
      · exact ih 0 (v9 + 1) (by (first | with_reducible assumption | omega | grind)) (zmu_up c1 hn)
      · exact ih 1 (v9 + 1) (by (first | with_reducible assumption | omega | grind)) (zmu_up c1 hn)
  have K147 : ∀ (k63 : zS → Int32 → Int32 → Int32 → Int32 → Option (Int32 × zS)) (v1 v2 v5 v4 v6 : Int32), 0 ≤ v2 ∧ v2 < 4 → 4000 ≤ v5 → (∀ r o, KW σ r o (v5 + 1) → v5 + 1 ≤ 4000 + r 82 52 → zq (k63 r v1 v2 o (v5 + 1)) Q) → ∀ (n : Nat) (ρ : zS) (v7 v8 : Int32), KW σ ρ v4 v5 → v5 < 4000 + ρ 82 52 → 0 ≤ v8 → zmu v8 < n → zq (zb_M_whole_147 k63 N n ρ v1 v2 v4 v5 v6 v7 v8) Q := by
    intro k63 v1 v2 v5 v4 v6 h2 h5 hk n
    induction n with
    | zero => intro _ _ _ _ _ _ hn; exact absurd hn (Nat.not_lt_zero _)
    | succ n ih =>
      intro ρ v7 v8 hK h5' h0 hn
      have nt := hK.pg.nt
      have fo := hK.ri.fo
      have oc := hK.oc
      have W := z_w oc ⟨h5, h5'⟩ fo
      rw [zb_M_whole_147]
      refine zq_ite (fun c1 => ?_) fun c1 => ?_
      · refine zq_ite (fun c2 => ?_) fun c2 => ?_
        · exact hk ρ v4 ⟨hK.fq, hK.rr, hK.pg, hK.ri, hK.f4, hK.z3, hK.z2, W.2.2.1, hK.so⟩ W.2.2.2.2.2
        · exact K313 k63 v1 v2 v5 ρ v4 hK ⟨h5, h5'⟩ (fun r o a e => hk r o a (by rw [e]; exact W.2.2.2.2.2)) N 1 0 (by decide) (zmu_lt hN _)
      · have row := hK.row ⟨h5, h5'⟩
        refine zq_bind (q_f_M_load hN hK.jz row.1 row.2 fun r30 j30 => ?_)
        have hK2 := hK.jn j30
        have e82 : r30 82 = ρ 82 := j30.fr 82 (by decide)
        have hx : 0 ≤ v8 ∧ v8 < r30 82 17 := by rw [e82]; (first | with_reducible assumption | omega | grind)
        have x4 : 0 ≤ v8 ∧ v8 < 4 := by (first | with_reducible assumption | omega | grind)
        have again : ∀ r v7, KW σ r v4 v5 → v5 < 4000 + r 82 52 → zq (zb_M_whole_296 (zb_M_whole_147 k63 N n) N r v1 v2 v4 v5 v6 v7 v8) Q := fun r v7 a b => ih r v7 (v8 + 1) a b (by (first | with_reducible assumption | omega | grind)) (zmu_up c1 hn)
        have end284 : ∀ r v7 s0, KW σ r v4 v5 → v5 < 4000 + r 82 52 → NW (r 107) (r 90) (r 93) (r 82 17) → zq (zb_M_whole_284 (zb_M_whole_147 k63 N n) N r v1 v2 v4 v5 v6 v7 v8 s0 38) Q := by
          intro r v7 s0 a b w
          unfold zb_M_whole_284
          refine zq_chk (by decide) fun _ => ?_
          have J : JN r r := ⟨fun _ _ => rfl, a.pg, w⟩
          have J2 : JN r (zx_up r 107 (38 : Int32).toNatClampNeg s0) := J.free (by decide)
          have a2 := a.jn J2
          have e2 : (zx_up r 107 (38 : Int32).toNatClampNeg s0) 82 = r 82 := zu_other (by decide)
          refine zq_bind (q_f_M_put hN a2.ri (fun t => (a2.pg.st t).2) a2.pg.nt.2 J2.nw fun r42 p42 => ?_)
          have a3 := a2.pt p42
          refine zq_ite (fun _ => ?_) fun _ => ?_
          · refine again _ _ a3 ?_
            have q := p42.fo.1
            rw [e2] at q
            exact z_fo (c := 0) b q a.ri.fo a3.ri.fo
          · exact fin v4 v5 _ _ a3
        have end248 : ∀ r v7 s0, KW σ r v4 v5 → v5 < 4000 + r 82 52 → NW (r 107) (r 90) (r 93) (r 82 17) → zq (zb_M_whole_248 (zb_M_whole_147 k63 N n) N r v1 v2 v4 v5 v6 v7 v8 s0 38) Q := by
          intro r v7 s0 a b w
          unfold zb_M_whole_248
          refine zq_chk (by decide) fun _ => ?_
          have J : JN r r := ⟨fun _ _ => rfl, a.pg, w⟩
          have J2 : JN r (zx_up r 107 (38 : Int32).toNatClampNeg s0) := J.free (by decide)
          have a2 := a.jn J2
          have e2 : (zx_up r 107 (38 : Int32).toNatClampNeg s0) 82 = r 82 := zu_other (by decide)
          have b2 : v5 < 4000 + (zx_up r 107 (38 : Int32).toNatClampNeg s0) 82 52 := by rw [e2]; exact b
          refine zq_bind (q_f_M_stateOf h2 fun r39 p39 => ?_)
          refine zq_ite (fun _ => end284 _ _ _ a2 b2 J2.nw) fun _ => ?_
          refine zq_bind (q_f_M_stateOf h2 fun r44 p44 => ?_)
          exact zq_ite (fun _ => end284 _ _ _ a2 b2 J2.nw) fun _ => end284 _ _ _ a2 b2 J2.nw
        refine zq_bind (q_f_M_canStep j30.refl hx fun r31 p31 => ?_)
        have b30 : v5 < 4000 + r30 82 52 := by rw [e82]; exact h5'
        refine zq_ite (fun c2 => again _ _ hK2 b30) fun c2 => ?_
        have end182 : zq (zb_M_whole_182 (zb_M_whole_147 k63 N n) N r30 v1 v2 v4 v5 v6 v8) Q := by
          unfold zb_M_whole_182
          refine zq_bind (q_f_M_at fun r34 p34 => ?_)
          refine zq_chk (z_atr p34 x4) fun _ => ?_
          refine zq_bind (q_f_M_doStep hN j30.refl hx (p31.resolve_left c2) fun r36 j36 => ?_)
          have a3 := hK2.jn j36
          have b3 : v5 < 4000 + r36 82 52 := by rw [j36.fr 82 (by decide)]; exact b30
          refine zq_ite (fun _ => end248 _ _ _ a3 b3 j36.nw) fun _ => ?_
          have rd := j30.nw.rd r34 v8 p34 x4.1 x4.2
          have st := j30.pg.st v8.toNatClampNeg
          have lt := rd.2.1 ((p31.resolve_left c2).elim Or.inl (fun q => Or.inr (Or.inr q)))
          have b := z_pair x4 (z_lt24 rd.1 lt st) x4 (z_lt24 rd.1 lt st)
          refine zq_chk b.1 fun _ => ?_
          exact zq_ite (fun _ => end248 _ _ _ a3 b3 j36.nw) fun _ => end248 _ _ _ a3 b3 j36.nw
        refine zq_ite (fun _ => end182) fun _ => ?_
        exact zq_ite (fun _ => again _ _ hK2 b30) fun _ => end182
  have K63 : ∀ (v1 v2 : Int32), 0 ≤ v2 ∧ v2 < σ 82 17 → ∀ (n : Nat) (ρ : zS) (v4 v5 : Int32), KW σ ρ v4 v5 → 4000 ≤ v5 ∧ v5 ≤ 4000 + ρ 82 52 → zmu v5 < n → zq (zb_M_whole_63 N n ρ v1 v2 v4 v5) Q := by
    intro v1 v2 h2 n
    induction n with
    | zero => intro _ _ _ _ _ hn; exact absurd hn (Nat.not_lt_zero _)
    | succ n ih =>
      intro ρ v4 v5 hK h5 hn
      have fo := hK.ri.fo
      have nt := hK.pg.nt
      have e17 : ρ 82 17 = σ 82 17 := hK.fq.ff 17 (by decide) (by decide) (by decide) (by decide) (by decide) (by decide) (by decide)
      have x2 : 0 ≤ v2 ∧ v2 < 4 := by (first | with_reducible assumption | omega | grind)
      rw [zb_M_whole_63]
      refine zq_ite (fun c1 => ?_) fun c1 => ?_
      · exact zq_ite (fun _ => K396 ρ v4 v5 hK (by (first | with_reducible assumption | omega | grind)) N 0 0 (by decide) (zmu_lt hN _)) fun _ => K396 ρ v4 v5 hK (by (first | with_reducible assumption | omega | grind)) N 1 0 (by decide) (zmu_lt hN _)
      · have row := hK.row ⟨h5.1, Int32.not_le.mp c1⟩
        refine zq_bind (q_f_M_load hN hK.jz row.1 row.2 fun r19 j19 => ?_)
        have hK2 := hK.jn j19
        have e82 : r19 82 = ρ 82 := j19.fr 82 (by decide)
        have b19 : v5 < 4000 + r19 82 52 := by rw [e82]; exact Int32.not_le.mp c1
        have go : ∀ v6, zq (zb_M_whole_139 (zb_M_whole_63 N n) N r19 v1 v2 v4 v5 v6) Q := fun v6 => by
          unfold zb_M_whole_139
          exact K147 _ v1 v2 v5 v4 v6 x2 h5.1 (fun r o a e => ih r o (v5 + 1) a ⟨by (first | with_reducible assumption | omega | grind), e⟩ (zmu_up c1 hn)) N r19 1 0 hK2 b19 (by decide) (zmu_lt hN _)
        refine zq_ite (fun _ => go 0) fun _ => ?_
        refine zq_bind (q_f_M_stateOf x2 fun r49 p49 => ?_)
        refine zq_ite (fun _ => go 0) fun c3 => ?_
        refine zq_bind (q_f_M_at fun r51 p51 => ?_)
        refine zq_chk (z_atr p51 x2) fun _ => ?_
        have rd := j19.nw.rd r51 v2 p51 x2.1 x2.2
        have st := j19.pg.st v2.toNatClampNeg
        have lt := rd.2.1 (Or.inl (p49.symm.trans (Decidable.not_not.mp c3)))
        have b := z_pair x2 (z_lt24 rd.1 lt st) x2 (z_lt24 rd.1 lt st)
        refine zq_chk b.1 fun _ => ?_
        refine zq_ite (fun _ => go 0) fun _ => ?_
        refine zq_bind (q_f_M_canStep j19.refl (by rw [e82, e17]; exact h2) fun r55 p55 => ?_)
        exact zq_ite (fun _ => go 0) fun _ => go 1
  unfold zf_M_whole
  have r0 : FQ σ (zx_up σ 82 0 0) := FQ.up82 (by simp) (FQ.refl σ)
  have E : ∀ i, i ≠ 0 → (zx_up σ 82 0 0) 82 i = σ 82 i := fun i h => by rw [zx_up_same, zu_ne h]
  have E1 : ∀ p, p ≠ 82 → (zx_up σ 82 0 0) p = σ p := fun p h => zu_other h
  have R0 : RR σ → RR (zx_up σ 82 0 0) := fun rr => rr.of (E 17 (by decide)) (E 54 (by decide)) (E 60 (by decide)) (fun q hq => E1 q (by omega)) (fun i _ => by rw [E1 108 (by decide)])
  have done : ∀ v, Q (v, zx_up σ 82 0 0) := fun v => hQ _ r0 (fun q => R0 (hG q).2) (E 53 (by decide)) (E 62 (by decide))
  refine zq_ite (fun c1 => ?_) fun c1 => done _
  refine zq_bind (q_f_M_in fun r2 p2 => ?_)
  refine zq_ite (fun c2 => ?_) fun c2 => done _
  obtain ⟨pg, rr⟩ := hG c1
  have ns := pg.ns
  refine zq_chk (by (first | with_reducible assumption | omega | grind)) fun c3 => ?_
  have sp := pg.sp x1 c3.1 (by (first | with_reducible assumption | omega | grind))
  refine zq_bind (q_f_M_forget hN fun r5 a b c d e => ?_)
  have hF2 : FQ σ r5 := r0.trans ⟨fun q x y => a q y (by omega), fun i _ x y _ _ _ _ => b i x y⟩
  refine zq_bind (q_f_M_firstState hN (σ0 := r5) ⟨fun _ _ => rfl, hF2.pg pg⟩ fun r6 j6 => ?_)
  have e82 : r6 82 = r5 82 := j6.fr 82 (by decide)
  have ri : RI r6 := by
    refine ⟨by rw [e82, d]; decide, by rw [e82, c]; exact Or.inr rfl, ?_, ?_, ?_⟩
    · intro h hh; rw [j6.fr 109 (by decide)]; exact Or.inl (e h hh)
    · intro s x y; rw [e82, c] at x y; rw [d] at y; exact absurd y (by (first | with_reducible assumption | omega | grind))
    · intro s x y; rw [e82, c] at x y; rw [d] at y; exact absurd y (by (first | with_reducible assumption | omega | grind))
  have rr5 : RR r5 := (R0 rr).of (b 17 (by decide) (by decide)) (b 54 (by decide) (by decide)) (b 60 (by decide) (by decide)) (fun q hq => a q (by omega) (by omega)) (fun i _ => by rw [a 108 (by decide) (by decide)])
  have kw : KW σ r6 0 4000 := ⟨hF2.trans (FQ.jn j6), rr5.jn j6, j6.pg, ri, by rw [e82]; exact c, by rw [e82, b 53 (by decide) (by decide)]; exact E 53 (by decide), by rw [e82, b 62 (by decide) (by decide)]; exact E 62 (by decide), by decide, fun k k0 k1 => absurd k1 (by (first | with_reducible assumption | omega | grind))⟩
  refine zq_bind (q_f_M_put hN ri (fun t => (j6.pg.st t).2) j6.pg.nt.2 j6.nw fun r7 p7 => ?_)
  have k7 := kw.pt p7
  exact K63 x1 _ sp N r7.2 0 4000 k7 ⟨by decide, by have := k7.ri.fo; (first | with_reducible assumption | omega | grind)⟩ (zmu_lt hN _)
/-! WITHOUT TRYING: the reference -/
theorem PG.okk {σ : zS} (h : PG σ) {k : Int32} (h0 : 0 ≤ k) (h1 : k < 24 * σ 82 17) (h2 : zJ_rem k 24 < σ 90 (k / 24).toNatClampNeg) : k < 96 ∧ SK σ k.toNatClampNeg (σ 90 (k / 24).toNatClampNeg) := by
  have nt := h.nt
  have h96 : k < 96 := by (first | with_reducible assumption | omega | grind)
  obtain ⟨d1, d2, d3⟩ := z_d24 k h0 h96
  have ok := h.ok (k / 24) (zJ_rem k 24) d1.1 (by (first | with_reducible assumption | omega | grind)) d2.1 h2
  rw [← d3] at ok
  exact ⟨h96, ok⟩
theorem z_or (a b : Int32) : a.toBitVec.toNat ≤ (a ||| b).toBitVec.toNat := by
  show a.toBitVec.toNat ≤ (a.toBitVec ||| b.toBitVec).toNat
  rw [BitVec.toNat_or]
  exact Nat.left_le_or
def zor (a : Int32) : Nat := 4294967296 - a.toBitVec.toNat
theorem zor_lt {N : Nat} (h : zBig ≤ N) (v : Int32) : zor v < N := by unfold zor; unfold zBig at h; omega
theorem zor_up {a b : Int32} {n : Nat} (h : a.toBitVec.toNat ≤ b.toBitVec.toNat) (hne : ¬ b = a) (hn : zor a < n + 1) : zor b < n := by
  have hb := b.toBitVec.isLt
  have : a.toBitVec.toNat ≠ b.toBitVec.toNat := fun e => hne (Int32.toBitVec_inj.mp (BitVec.eq_of_toNat_eq e.symm))
  unfold zor at hn ⊢
  omega
theorem q_f_M_behindOf {σ0 σ : zS} {x1 x2 : Int32} {Q : Int32 → Prop} (hJ : PGJ σ0 σ) (hP : (0 ≤ x1 ∧ x1 < 4) ∧ (0 ≤ x2 ∧ x2 < 24)) (hQ : ∀ r, Q r) : zq (zf_M_behindOf σ x1 x2) Q := by
  have hk : 0 ≤ 24 * x1 + x2 ∧ 24 * x1 + x2 < 96 := by (first | with_reducible assumption | omega | grind)
  have e69 : ∀ s0, zq (zb_M_behindOf_69 σ x1 s0) Q := fun s0 => by unfold zb_M_behindOf_69; exact zq_chk hP.1 fun _ => hQ _
  have e53 : ∀ s0, zq (zb_M_behindOf_53 σ x1 (24 * x1 + x2) s0) Q := fun s0 => by unfold zb_M_behindOf_53; exact zq_chk hk fun _ => e69 _
  have e30 : ∀ s0, zq (zb_M_behindOf_30 σ x1 (24 * x1 + x2) s0) Q := fun s0 => by
    unfold zb_M_behindOf_30
    exact zq_chk hk fun _ => zq_ite (fun _ => e53 _) fun _ => zq_chk hk fun _ => zq_ite (fun _ => e69 _) fun _ => e53 _
  unfold zf_M_behindOf
  exact zq_chk hk fun _ => zq_ite (fun _ => zq_chk hk fun _ => e30 _) fun _ => e30 _
theorem q_f_M_reached {N : Nat} (hN : zBig ≤ N) {σ0 σ : zS} {x1 x2 x3 : Int32} {Q : Int32 → Prop} (hJ : PGJ σ0 σ) (hP : 0 ≤ x1 ∧ x1 < 4) (hQ : ∀ r, Q r) : zq (zf_M_reached N σ x1 x2 x3) Q := by
  have st : 0 ≤ σ 90 x1.toNatClampNeg ∧ σ 90 x1.toNatClampNeg ≤ 24 := PG.st hJ _
  have H18 : ∀ (k6 : zS → Int32 → Int32 → Int32 → Int32 → Option Int32) (v6 : Int32), (∀ v4, v6.toBitVec.toNat ≤ v4.toBitVec.toNat → zq (k6 σ x1 x3 v4 0) Q) → (∀ v4, v6.toBitVec.toNat ≤ v4.toBitVec.toNat → ¬ v4 = v6 → zq (k6 σ x1 x3 v4 1) Q) → ∀ (n : Nat) (v4 v7 : Int32), v6.toBitVec.toNat ≤ v4.toBitVec.toNat → 0 ≤ v7 → zmu v7 < n → zq (zb_M_reached_18 k6 N n σ x1 x3 v4 v6 v7) Q := by
    intro k6 v6 hk0 hk1 n
    induction n with
    | zero => intro _ _ _ _ hn; exact absurd hn (Nat.not_lt_zero _)
    | succ n ih =>
      intro v4 v7 h4 h0 hn
      rw [zb_M_reached_18]
      refine zq_chk hP fun _ => ?_
      refine zq_ite (fun c1 => ?_) fun c1 => ?_
      · exact zq_ite (fun _ => hk0 _ h4) fun c => hk1 _ h4 c
      · refine zq_ite (fun _ => ih v4 (v7 + 1) h4 (by (first | with_reducible assumption | omega | grind)) (zmu_up c1 hn)) fun _ => ?_
        refine zq_ite (fun _ => ih v4 (v7 + 1) h4 (by (first | with_reducible assumption | omega | grind)) (zmu_up c1 hn)) fun _ => ?_
        exact zq_bind (q_f_M_behindOf hJ ⟨hP, by (first | with_reducible assumption | omega | grind)⟩ fun r7 => ih _ (v7 + 1) (Nat.le_trans h4 (z_or v4 r7)) (by (first | with_reducible assumption | omega | grind)) (zmu_up c1 hn))
  have H6 : ∀ (n : Nat) (v4 v5 : Int32), (v5 = 0 ∧ 0 < n ∨ zor v4 + 1 < n) → zq (zb_M_reached_6 N n σ x1 x3 v4 v5) Q := by
    intro n
    induction n with
    | zero => intro _ _ hn; omega
    | succ n ih =>
      intro v4 v5 hn
      rw [zb_M_reached_6]
      refine zq_ite (fun _ => hQ _) fun c1 => ?_
      have hn : zor v4 + 1 < n + 1 := hn.elim (fun q => absurd q.1 c1) id
      refine H18 _ v4 (fun w hw => ih w 0 (Or.inl ⟨rfl, by omega⟩)) (fun w hw hne => ih w 1 (Or.inr ?_)) N v4 0 (Nat.le_refl _) (by decide) (zmu_lt hN _)
      have := zor_up (n := zor v4) hw hne (by omega)
      omega
  refine H6 N x2 1 (Or.inr ?_)
  have : zBig ≤ N := hN
  unfold zor
  unfold zBig at this
  omega
theorem q_f_M_isDoubt0 {N : Nat} (hN : zBig ≤ N) {σ0 σ : zS} {x1 x2 S : Int32} {Q : Int32 → Prop} (hm : ∀ {a b c d : Int32} {Q : Int32 → Prop}, (0 ≤ a ∧ a < 4) ∧ (0 ≤ b ∧ b < 4) → (∀ r, Q r) → zq (zf_M_meets N σ a c b d) Q) (h1 : 0 ≤ x1 ∧ x1 < 96) (h2 : 0 ≤ x2 ∧ x2 < 96) (ok : SK σ x1.toNatClampNeg S) (hQ : ∀ r, Q r) : zq (zf_M_isDoubt N σ x1 x2) Q := by
  unfold zf_M_isDoubt
  refine zq_bind (q_f_M_wouldRace h1 h2 ok fun r1 => ?_)
  refine zq_ite (fun _ => hQ _) fun _ => zq_chk h1 fun _ => zq_chk h2 fun _ => zq_ite (fun _ => hQ _) fun _ => ?_
  have d1 := z_d24 x1 h1.1 h1.2
  have d2 := z_d24 x2 h2.1 h2.2
  exact zq_bind (hm ⟨d1.1, d2.1⟩ fun r6 => zq_ite (fun _ => hQ _) fun _ => hQ _)
/-! WHAT IS ASKED OF THE REFERENCE -/
def GE (σ0 σ : zS) : Prop :=
  (FQ σ0 σ) ∧
  (σ 82 53 = σ0 82 53) ∧
  (¬ σ 82 21 = 0 → PG σ) ∧
  (¬ σ 82 53 = 0 → PG σ ∧ RR σ) ∧
  (-1 ≤ σ 82 62 ∧ σ 82 62 ≤ 4000)
theorem GE.fq {σ0 σ : zS} (h : GE σ0 σ) : FQ σ0 σ := h.1
theorem GE.z3 {σ0 σ : zS} (h : GE σ0 σ) : σ 82 53 = σ0 82 53 := h.2.1
theorem GE.pg {σ0 σ : zS} (h : GE σ0 σ) : ¬ σ 82 21 = 0 → PG σ := h.2.2.1
theorem GE.rr {σ0 σ : zS} (h : GE σ0 σ) : ¬ σ 82 53 = 0 → PG σ ∧ RR σ := h.2.2.2.1
theorem GE.sc {σ0 σ : zS} (h : GE σ0 σ) : -1 ≤ σ 82 62 ∧ σ 82 62 ≤ 4000 := h.2.2.2.2
def GP (σ0 σ : zS) : Prop :=
  (GE σ0 σ) ∧
  (PG σ)
theorem GP.ge {σ0 σ : zS} (h : GP σ0 σ) : GE σ0 σ := h.1
theorem GP.pg {σ0 σ : zS} (h : GP σ0 σ) : PG σ := h.2
theorem PG.t0 {σ : zS} {i : Nat} {v : Int32} (hi : i = 0 ∨ i = 62) (h : PG σ) : PG (zx_up σ 82 i v) :=
  PG.of2 (fun q a _ => zu_other a) ⟨by rw [zx_up_same, zu_ne (by omega)], by rw [zx_up_same, zu_ne (by omega)], by rw [zx_up_same, zu_ne (by omega)], by rw [zx_up_same, zu_ne (by omega)]⟩ h
theorem RR.t0 {σ : zS} {i : Nat} {v : Int32} (hi : i = 0 ∨ i = 62) (h : RR σ) : RR (zx_up σ 82 i v) :=
  h.of (by rw [zx_up_same, zu_ne (by omega)]) (by rw [zx_up_same, zu_ne (by omega)]) (by rw [zx_up_same, zu_ne (by omega)]) (fun q hq => zu_other (by omega)) (fun i _ => by rw [zu_other (by decide)])
theorem GE.t0 {σ0 σ : zS} {v : Int32} (h : GE σ0 σ) : GE σ0 (zx_up σ 82 0 v) := by
  have e : ∀ i, i ≠ 0 → (zx_up σ 82 0 v) 82 i = σ 82 i := fun i hi => by rw [zx_up_same, zu_ne hi]
  refine ⟨FQ.up82 (by simp) h.fq, by rw [e 53 (by decide)]; exact h.z3, ?_, ?_, by rw [e 62 (by decide)]; exact h.sc⟩
  · rw [e 21 (by decide)]; exact fun q => (h.pg q).t0 (Or.inl rfl)
  · rw [e 53 (by decide)]; exact fun q => ⟨(h.rr q).1.t0 (Or.inl rfl), (h.rr q).2.t0 (Or.inl rfl)⟩
theorem GE.t62 {σ0 σ : zS} {v : Int32} (hv : -1 ≤ v ∧ v ≤ 4000) (h : GE σ0 σ) : GE σ0 (zx_up σ 82 62 v) := by
  have e : ∀ i, i ≠ 62 → (zx_up σ 82 62 v) 82 i = σ 82 i := fun i hi => by rw [zx_up_same, zu_ne hi]
  refine ⟨FQ.up82 (by simp) h.fq, by rw [e 53 (by decide)]; exact h.z3, ?_, ?_, by rw [zx_up_same, zu_eq]; exact hv⟩
  · rw [e 21 (by decide)]; exact fun q => (h.pg q).t0 (Or.inr rfl)
  · rw [e 53 (by decide)]; exact fun q => ⟨(h.rr q).1.t0 (Or.inr rfl), (h.rr q).2.t0 (Or.inr rfl)⟩
theorem GE.t116 {σ0 σ : zS} {i : Nat} {v : Int32} (h : GE σ0 σ) : GE σ0 (zx_up σ 116 i v) := by
  have e : ∀ q, q ≠ 116 → (zx_up σ 116 i v) q = σ q := fun q hq => zu_other hq
  have e82 := e 82 (by decide)
  have p : PG σ → PG (zx_up σ 116 i v) := PG.of (fun q _ b => e q (by omega))
  refine ⟨FQ.up (by decide) h.fq, by rw [e82]; exact h.z3, ?_, ?_, by rw [e82]; exact h.sc⟩
  · rw [e82]; exact fun q => p (h.pg q)
  · rw [e82]; exact fun q => ⟨p (h.rr q).1, (h.rr q).2.of (by rw [e82]) (by rw [e82]) (by rw [e82]) (fun q hq => e q (by omega)) (fun i _ => by rw [e 108 (by decide)])⟩
theorem GE.jn {σ0 σ r : zS} (h : GE σ0 σ) (j : JN σ r) : GE σ0 r := by
  have e82 : r 82 = σ 82 := j.fr 82 (by decide)
  refine ⟨h.fq.trans (FQ.jn j), by rw [e82]; exact h.z3, fun _ => j.pg, ?_, by rw [e82]; exact h.sc⟩
  rw [e82]; exact fun q => ⟨j.pg, (h.rr q).2.jn j⟩
theorem z_in {r x a : Int32} (h : (r = 1 ∧ 0 ≤ x ∧ x ≤ a - 1) ∨ (r = 0 ∧ ¬ (0 ≤ x ∧ x ≤ a - 1))) (hr : ¬ r = 0) (ha : 0 ≤ a ∧ a ≤ 4000) : 0 ≤ x ∧ x < a := by grind
theorem q_f_M_isState {σ : zS} {x1 : Int32} {Q : Int32 → Prop} (h : 0 ≤ σ 82 54 ∧ σ 82 54 ≤ 4000) (hQ : ∀ r, (r = 0 ∨ (0 ≤ x1 ∧ x1 < σ 82 54)) → Q r) : zq (zf_M_isState σ x1) Q := by
  unfold zf_M_isState
  refine zq_bind (q_f_M_in fun r1 p1 => ?_)
  refine zq_chk (by grind) fun c => hQ _ ?_
  by_cases q : r1 = 0
  · exact Or.inl q
  · exact Or.inr (z_in p1 q h)
theorem q_f_M_waitsFor {σ0 σ : zS} {x1 : Int32} {Q : Int32 → Prop} (hJ : JN σ0 σ) (hx : 0 ≤ x1 ∧ x1 < σ 82 17) (hQ : ∀ r, (r = -1 ∨ (0 ≤ r ∧ r < σ 82 17)) → Q r) : zq (zf_M_waitsFor σ x1) Q := by
  have n4 := hJ.pg.nt
  have hx4 : 0 ≤ x1 ∧ x1 < 4 := by (first | with_reducible assumption | omega | grind)
  have hst := hJ.pg.st x1.toNatClampNeg
  have rd := hJ.nw.rd (14 + 6 * x1) x1 rfl hx4.1 hx4.2
  unfold zf_M_waitsFor
  refine zq_bind (q_f_M_at fun r1 pr1 => ?_)
  subst pr1
  refine zq_chk (z_atr rfl hx4) fun _ => ?_
  refine zq_bind (q_f_M_stateOf hx4 fun r3 p3 => ?_)
  refine zq_ite (fun c => hQ _ (Or.inl rfl)) fun c => ?_
  have lt := rd.2.1 (Or.inl (p3.symm.trans (Decidable.not_not.mp c)))
  have ok := hJ.pg.ok x1 (σ 107 (14 + 6 * x1).toNatClampNeg) hx.1 hx.2 rd.1.1 lt
  have b := (z_pair hx4 (z_lt24 rd.1 lt hst) hx4 (z_lt24 rd.1 lt hst)).1
  refine zq_chk b fun _ => ?_
  refine zq_ite (fun c => hQ _ (Or.inl rfl)) fun c2 => ?_
  refine zq_chk b fun _ => ?_
  have w := ok.w2 (Or.inl (Decidable.not_not.mp c2))
  generalize σ 93 (24 * x1 + σ 107 (14 + 6 * x1).toNatClampNeg).toNatClampNeg = W at *
  have ow := hJ.nw.ow W w.1 (by (first | with_reducible assumption | omega | grind))
  refine zq_chk (by (first | with_reducible assumption | omega | grind)) fun _ => hQ _ ?_
  generalize σ 107 (6 + W).toNatClampNeg = V at *
  generalize σ 82 17 = T at *
  clear hQ rd ok hJ
  grind
theorem q_f_M_stuck {N : Nat} (hN : zBig ≤ N) {σ0 σ : zS} {x1 : Int32} {Q : Int32 × zS → Prop} (hJ : GE σ0 σ) (hQ : ∀ r, GE σ0 r.2 → Q r) : zq (zf_M_stuck N σ x1) Q := by
  unfold zf_M_stuck
  have h0 := hJ.t0 (v := 0)
  refine zq_ite (fun c1 => ?_) fun _ => hQ _ h0
  have rr := h0.rr c1
  have st := rr.2.st
  refine zq_bind (q_f_M_isState st fun r2 p2 => ?_)
  refine zq_ite (fun _ => hQ _ h0) fun c2 => ?_
  have hx := p2.resolve_left c2
  refine zq_chk (z_w4 hx st.2).2 fun _ => ?_
  refine zq_ite (fun _ => ?_) fun _ => hQ _ h0
  refine zq_bind (q_f_M_load hN (σ0 := zx_up σ 82 0 0) ⟨fun _ _ => rfl, rr.1⟩ (z_w4 hx st.2).1 (rr.2.rw x1 hx.1 hx.2) fun r6 j6 => ?_)
  have g6 := h0.jn j6
  have j6 := j6.refl
  have nt := j6.pg.nt
  have K59 : ∀ (k45 : zS → Int32 → Int32 → Option (Int32 × zS)) (v3 : Int32), 0 ≤ v3 ∧ v3 < r6 82 17 → (∀ s, zq (k45 r6 s (v3 + 1)) Q) → ∀ v2, ∀ (n : Nat) (v4 v5 : Int32), (v4 = -1 ∨ (0 ≤ v4 ∧ v4 < r6 82 17)) → 0 ≤ v5 → zmu v5 < n → zq (zb_M_stuck_59 k45 N n r6 v2 v3 v4 v5) Q := by
    intro k45 v3 h3 hk v2 n
    have out : zq (zb_M_stuck_96 k45 N r6 v2 v3) Q := by
      unfold zb_M_stuck_96
      refine zq_bind (q_f_M_stateOf (by (first | with_reducible assumption | omega | grind)) fun r10 _ => ?_)
      exact zq_ite (fun _ => hk 0) fun _ => zq_ite (fun _ => hk 1) fun _ => zq_ite (fun _ => hk 1) fun _ => zq_ite (fun _ => hk 1) fun _ => zq_ite (fun _ => hk 0) fun _ => hk 1
    induction n with
    | zero => intro _ _ _ _ hn; exact absurd hn (Nat.not_lt_zero _)
    | succ n ih =>
      intro v4 v5 h4 h5 hn
      rw [zb_M_stuck_59]
      refine zq_ite (fun _ => out) fun c1 => ?_
      refine zq_ite (fun _ => out) fun c2 => ?_
      refine zq_bind (q_f_M_waitsFor j6 (h4.resolve_left c2) fun r17 p17 => ?_)
      refine zq_ite (fun _ => ih r17 (v5 + 1) p17 (by (first | with_reducible assumption | omega | grind)) (zmu_up c1 hn)) fun _ => hQ _ g6
  have K45 : ∀ (n : Nat) (v2 v3 : Int32), 0 ≤ v3 → zmu v3 < n → zq (zb_M_stuck_45 N n r6 v2 v3) Q := by
    intro n
    induction n with
    | zero => intro _ _ _ hn; exact absurd hn (Nat.not_lt_zero _)
    | succ n ih =>
      intro v2 v3 h3 hn
      rw [zb_M_stuck_45]
      refine zq_ite (fun _ => zq_ite (fun _ => hQ _ g6) fun _ => hQ _ g6) fun c1 => ?_
      exact K59 _ v3 ⟨h3, Int32.not_le.mp c1⟩ (fun s => ih s (v3 + 1) (by (first | with_reducible assumption | omega | grind)) (zmu_up c1 hn)) v2 N v3 0 (Or.inr ⟨h3, Int32.not_le.mp c1⟩) (by decide) (zmu_lt hN _)
  exact K45 N 1 0 (by decide) (zmu_lt hN _)
/-- how long the way to a state is -/
def zlen (c : Nat → Int32) : Nat → Nat → Nat
  | 0, _ => 0
  | n + 1, t => if t = 0 then 0 else zlen c n (c t).toNatClampNeg + 1
theorem zlen_le (c : Nat → Int32) : ∀ n t, zlen c n t ≤ n := by
  intro n
  induction n with
  | zero => intro t; exact Nat.le_refl _
  | succ n ih => intro t; unfold zlen; split; exact Nat.zero_le _; exact Nat.succ_le_succ (ih _)
theorem zlen_more {c : Nat → Int32} {B : Nat} (hc : ∀ t, 0 < t → t < B → (c t).toNatClampNeg < t) : ∀ n m t, t < B → t ≤ n → t ≤ m → zlen c n t = zlen c m t := by
  intro n
  induction n with
  | zero =>
    intro m t hB h1 h2
    have : t = 0 := by omega
    subst this
    cases m with
    | zero => rfl
    | succ m => unfold zlen; rw [if_pos rfl]
  | succ n ih =>
    intro m t hB h1 h2
    by_cases q : t = 0
    · subst q
      cases m with
      | zero => unfold zlen; rw [if_pos rfl]
      | succ m => unfold zlen; rw [if_pos rfl, if_pos rfl]
    · cases m with
      | zero => omega
      | succ m =>
        unfold zlen
        rw [if_neg q, if_neg q]
        have := hc t (by omega) hB
        rw [ih m _ (by omega) (by omega) (by omega)]
theorem z_of {a : Int32} {n : Nat} (h : a.toInt = n) : a.toNatClampNeg = n := by unfold Int32.toNatClampNeg; omega
theorem q_f_M_stateShown0 {N : Nat} (hN : zBig ≤ N) {σ : zS} {x1 x2 : Int32} {Q : Int32 → Prop} (h : RR σ) (hof : ∀ {a b : Int32} {Q : Int32 → Prop}, 0 ≤ a ∧ a < 4000 → (∀ r, Q r) → zq (zf_M_isOf N σ a b) Q) (hpo : ∀ {a : Int32} {Q : Int32 → Prop}, (∀ r, (r = -1 ∨ ((0 ≤ r ∧ r < 9216) ∧ ¬ σ 114 r.toNatClampNeg ≤ 0)) → Q r) → zq (zf_M_pairOf N σ a) Q) (hQ : ∀ r, (r = -1 ∨ (0 ≤ r ∧ r < σ 82 54)) → Q r) : zq (zf_M_stateShown N σ x1 x2) Q := by
  have st := h.st
  have K : ∀ (n : Nat) (v3 v4 : Int32), 0 ≤ v4 → zmu v4 < n → zq (zb_M_stateShown_80 N n σ x1 x2 v3 v4) Q := by
    intro n
    induction n with
    | zero => intro _ _ _ hn; exact absurd hn (Nat.not_lt_zero _)
    | succ n ih =>
      intro v3 v4 h4 hn
      rw [zb_M_stateShown_80]
      refine zq_ite (fun _ => hQ _ (Or.inl rfl)) fun c1 => ?_
      refine zq_ite (fun _ => hQ _ (Or.inl rfl)) fun c2 => ?_
      refine zq_bind (hof (z_w4 ⟨h4, Int32.not_le.mp c1⟩ st.2).2 fun r6 => ?_)
      refine zq_ite (fun _ => ih v3 (v4 + 1) (by (first | with_reducible assumption | omega | grind)) (zmu_up c1 hn)) fun _ => ?_
      refine zq_ite (fun _ => ih (v3 + (-1)) (v4 + 1) (by (first | with_reducible assumption | omega | grind)) (zmu_up c1 hn)) fun _ => hQ _ (Or.inr ⟨h4, Int32.not_le.mp c1⟩)
  have K75 : zq (zb_M_stateShown_75 N σ x1 x2) Q := K N x2 0 (by decide) (zmu_lt hN _)
  unfold zf_M_stateShown
  refine zq_ite (fun _ => ?_) fun _ => ?_
  · refine zq_ite (fun _ => ?_) fun _ => ?_
    · exact zq_ite (fun _ => K75) fun _ => zq_ite (fun _ => K75) fun _ => zq_ite (fun _ => K75) fun _ => hQ _ (Or.inl rfl)
    · refine zq_bind (q_f_M_in fun r11 p11 => ?_)
      refine zq_ite (fun _ => hQ _ (Or.inl rfl)) fun c => ?_
      have hx := z_in p11 c h.oc
      refine zq_chk (z_w4 hx h.oc.2).2 fun _ => hQ _ (Or.inr (h.ou x2 hx.1 hx.2))
  · refine zq_bind (hpo fun r14 p14 => ?_)
    refine zq_ite (fun c => ?_) fun _ => hQ _ (Or.inl rfl)
    have p := p14.resolve_left c
    refine zq_chk p.1 fun _ => hQ _ (Or.inr ?_)
    have ra := h.ra r14.toNatClampNeg (z_natlt (b := 9216) p.1.1 p.1.2)
    have p2 := p.2
    generalize σ 114 r14.toNatClampNeg = V at *
    generalize σ 82 54 = T at *
    clear p14 p hQ K K75 hof hpo h
    grind
theorem q_f_M_show0 {N : Nat} (hN : zBig ≤ N) {σ0 σ : zS} {x1 x2 : Int32} {Q : Int32 × zS → Prop} (hJ : GE σ0 σ) (hss : ¬ σ 82 53 = 0 → ∀ {Q : Int32 → Prop}, (∀ r, (r = -1 ∨ (0 ≤ r ∧ r < (zx_up σ 82 0 0) 82 54)) → Q r) → zq (zf_M_stateShown N (zx_up σ 82 0 0) x1 x2) Q) (hQ : ∀ r, GE σ0 r.2 → Q r) : zq (zf_M_show N σ x1 x2) Q := by
  unfold zf_M_show
  have h0 := hJ.t0 (v := 0)
  refine zq_ite (fun c1 => ?_) fun _ => hQ _ h0
  have rr := (hJ.rr c1).2
  have st := rr.st
  refine zq_bind (hss c1 fun r2 p2 => ?_)
  refine zq_ite (fun c2 => ?_) fun _ => hQ _ h0
  have e54 : (zx_up σ 82 0 0) 82 54 = σ 82 54 := by rw [zx_up_same, zu_ne (by decide)]
  have hr := p2.resolve_left c2
  rw [e54] at hr
  have cl : ∀ t : Int32, 0 < t → t < σ 82 54 → zlen (σ 111) 4000 t.toNatClampNeg = zlen (σ 111) 4000 (σ 111 t.toNatClampNeg).toNatClampNeg + 1 := by
    intro t t0 t1
    have hB : ∀ u, 0 < u → u < (σ 82 54).toNatClampNeg → (σ 111 u).toNatClampNeg < u := by
      intro u u0 u1
      have e : (Int32.ofNat u).toNatClampNeg = u := by
        have h1 := z_nat st.1
        have h2 : (σ 82 54).toInt ≤ 4000 := Int32.le_iff_toInt_le.mp st.2
        apply z_of
        rw [Int32.toInt_ofNat_of_lt (by omega)]
      have b1 : 0 ≤ Int32.ofNat u := by
        have h1 := z_nat st.1
        have h2 : (σ 82 54).toInt ≤ 4000 := Int32.le_iff_toInt_le.mp st.2
        apply Int32.le_iff_toInt_le.mpr
        rw [Int32.toInt_ofNat_of_lt (by omega)]
        exact Int.natCast_nonneg _
      have h1 := z_nat st.1
      have h2 : (σ 82 54).toInt ≤ 4000 := Int32.le_iff_toInt_le.mp st.2
      have e3 : (Int32.ofNat u).toInt = u := Int32.toInt_ofNat_of_lt (by omega)
      have b2 : 0 < Int32.ofNat u := Int32.lt_iff_toInt_lt.mpr (by rw [e3]; show (0 : Int) < u; omega)
      have b3 : Int32.ofNat u < σ 82 54 := Int32.lt_iff_toInt_lt.mpr (by rw [e3]; omega)
      have := rr.cf (Int32.ofNat u) b2 b3
      rw [e] at this
      have := z_natlt this.1 this.2
      rw [e] at this
      exact this
    have t0' : 0 ≤ t := Int32.le_of_lt t0
    have n1 := z_natlt t0' t1
    have n2 := z_nat st.1
    have n3 : (σ 82 54).toInt ≤ 4000 := Int32.le_iff_toInt_le.mp st.2
    have n4 : t.toNatClampNeg ≠ 0 := fun e => by
      have a := z_nat t0'
      have b : (0 : Int32).toInt < t.toInt := Int32.lt_iff_toInt_lt.mp t0
      rw [show (0 : Int32).toInt = 0 from rfl] at b
      omega
    have n5 := hB t.toNatClampNeg (by omega) n1
    have : zlen (σ 111) (3999 + 1) t.toNatClampNeg = zlen (σ 111) 3999 (σ 111 t.toNatClampNeg).toNatClampNeg + 1 := by
      rw [zlen, if_neg n4]
    rw [show (4000 : Nat) = 3999 + 1 from rfl, this, zlen_more hB 3999 (3999 + 1) _ (by omega) (by omega) (by omega)]
  have zl0 : zlen (σ 111) 4000 (0 : Int32).toNatClampNeg = 0 := by
    rw [show (0 : Int32).toNatClampNeg = 0 from rfl, show (4000 : Nat) = 3999 + 1 from rfl, zlen, if_pos rfl]
  have K74 : ∀ (n : Nat) (ρ : zS) (v4 v5 : Int32), GE σ0 ρ → ρ 111 = σ 111 → v4.toInt = zlen (σ 111) 4000 v5.toNatClampNeg → 0 ≤ v5 ∧ v5 < σ 82 54 → zmd v5 < n → zq (zb_M_show_74 N n ρ r2 v4 v5) Q := by
    intro n
    induction n with
    | zero => intro _ _ _ _ _ _ _ hn; exact absurd hn (Nat.not_lt_zero _)
    | succ n ih =>
      intro ρ v4 v5 hg e1 h4 h5 hn
      rw [zb_M_show_74]
      refine zq_ite (fun _ => hQ _ hg) fun c1 => ?_
      have h5' : 0 < v5 := Int32.not_le.mp c1
      have r5 := (z_w4 h5 st.2).2
      have l := cl v5 h5' h5.2
      have le := zlen_le (σ 111) 4000 v5.toNatClampNeg
      have e4 : (v4 + (-1)).toInt = v4.toInt - 1 := by
        refine (z_ti_add (a := v4) (b := -1) ?_ ?_).trans ?_ <;> rw [show (-1 : Int32).toInt = -1 from rfl] <;> omega
      have b4 : 0 ≤ v4 + (-1) ∧ v4 + (-1) < 4000 := ⟨Int32.le_iff_toInt_le.mpr (by rw [e4]; show (0 : Int) ≤ _; omega), Int32.lt_iff_toInt_lt.mpr (by rw [e4]; show _ < (4000 : Int); omega)⟩
      refine zq_chk r5 fun _ => ?_
      rw [if_pos b4]
      refine zq_chk r5 fun _ => ?_
      have cf := rr.cf v5 h5' h5.2
      refine ih _ _ _ hg.t116 (by rw [zu_other (by decide)]; exact e1) ?_ ?_ (zmd_mono (b := v5) ?_ hn)
      · rw [e1, e4, h4, l]; omega
      · rw [e1]; exact ⟨cf.1, Int32.lt_trans cf.2 h5.2⟩
      · rw [e1]; exact cf.2
  have K38 : ∀ (n : Nat) (ρ : zS) (v4 : Int32), GE σ0 ρ → ρ 111 = σ 111 → (ρ 82 62).toInt + zlen (σ 111) 4000 v4.toNatClampNeg = zlen (σ 111) 4000 r2.toNatClampNeg → 0 ≤ (ρ 82 62).toInt → 0 ≤ v4 ∧ v4 < σ 82 54 → zmd v4 < n → zq (zb_M_show_38 N n ρ r2 v4) Q := by
    intro n
    induction n with
    | zero => intro _ _ _ _ _ _ _ hn; exact absurd hn (Nat.not_lt_zero _)
    | succ n ih =>
      intro ρ v4 hg e1 hl hp h4 hn
      have le := zlen_le (σ 111) 4000 r2.toNatClampNeg
      rw [zb_M_show_38]
      refine zq_ite (fun c1 => ?_) fun c1 => ?_
      · have e : v4 = 0 := by (first | with_reducible assumption | omega | grind)
        rw [e, zl0] at hl
        exact K74 N ρ _ r2 hg e1 (by omega) hr (zmd_lt hN _)
      · have h4' : 0 < v4 := Int32.not_le.mp c1
        have l := cl v4 h4' h4.2
        refine zq_chk (z_w4 h4 st.2).2 fun _ => ?_
        have cf := rr.cf v4 h4' h4.2
        have e62 : (ρ 82 62 + 1).toInt = (ρ 82 62).toInt + 1 := by
          refine (z_ti_add (a := ρ 82 62) (b := 1) ?_ ?_).trans ?_ <;> rw [show (1 : Int32).toInt = 1 from rfl] <;> omega
        have e62' : (zx_up ρ 82 62 (ρ 82 62 + 1)) 82 62 = ρ 82 62 + 1 := by rw [zx_up_same, zu_eq]
        refine ih _ _ (hg.t62 ⟨Int32.le_iff_toInt_le.mpr (by rw [e62]; show (-1 : Int) ≤ _; omega), Int32.le_iff_toInt_le.mpr (by rw [e62]; show _ ≤ (4000 : Int); omega)⟩) (by rw [zu_other (by decide)]; exact e1) ?_ ?_ ?_ (zmd_mono (b := v4) ?_ hn)
        · rw [e62', e62, e1]; omega
        · rw [e62', e62]; omega
        · rw [e1]; exact ⟨cf.1, Int32.lt_trans cf.2 h4.2⟩
        · rw [e1]; exact cf.2
  have z62 : (zx_up (zx_up σ 82 0 0) 82 62 0) 82 62 = 0 := by rw [zx_up_same, zu_eq]
  refine K38 N _ r2 (h0.t62 (by decide)) (by rw [zu_other (by decide), zu_other (by decide)]) ?_ ?_ hr (zmd_lt hN _)
  · rw [z62]; show (0 : Int) + _ = _; omega
  · rw [z62]; decide
theorem z_nx24 (a : Int32) : 0 ≤ a → a < 96 → 0 ≤ 24 * (a / 24 + 1) := by
  intro h0 h1
  have := (z_d24 a h0 h1).1
  generalize a / 24 = q at *
  grind
theorem q_f_M_field {σ0 σ : zS} {x1 x2 : Int32} {Q : Int32 × zS → Prop} (hJ : GE σ0 σ) (hQ : ∀ r, GE σ0 r.2 → Q r) : zq (zf_M_field σ x1 x2) Q := by
  unfold zf_M_field
  have h0 := hJ.t0 (v := 0)
  refine zq_ite (fun c1 => ?_) fun _ => hQ _ h0
  have rr := hJ.rr c1
  refine zq_bind (q_f_M_isState (h0.rr c1).2.st fun r2 p2 => ?_)
  refine zq_ite (fun _ => hQ _ h0) fun c2 => ?_
  have hx : 0 ≤ x1 ∧ x1 < σ 82 54 := p2.resolve_left c2
  refine zq_bind (q_f_M_in fun r4 p4 => ?_)
  refine zq_ite (fun _ => hQ _ h0) fun c3 => ?_
  have hf := z_in p4 c3 ⟨rr.1.nf.1, Int32.le_trans rr.1.nf.2 (by decide)⟩
  have h40 : 0 ≤ x2 ∧ x2 < 40 := ⟨hf.1, Int32.lt_of_lt_of_le hf.2 (Int32.le_trans rr.1.nf.2 (by decide))⟩
  exact zq_chk (z40r (z_w4 hx rr.2.st.2).1 h40) fun _ => hQ _ h0
theorem q_f_M_owner {σ0 σ : zS} {x1 x2 : Int32} {Q : Int32 × zS → Prop} (hJ : GE σ0 σ) (hQ : ∀ r, GE σ0 r.2 → Q r) : zq (zf_M_owner σ x1 x2) Q := by
  unfold zf_M_owner
  have h0 := hJ.t0 (v := 0)
  refine zq_ite (fun c1 => ?_) fun _ => hQ _ h0
  have rr := hJ.rr c1
  refine zq_bind (q_f_M_isState (h0.rr c1).2.st fun r2 p2 => ?_)
  refine zq_ite (fun _ => hQ _ h0) fun c2 => ?_
  have hx : 0 ≤ x1 ∧ x1 < σ 82 54 := p2.resolve_left c2
  refine zq_bind (q_f_M_in fun r4 p4 => ?_)
  refine zq_ite (fun _ => hQ _ h0) fun c3 => ?_
  have hf := z_in p4 c3 ⟨rr.1.nl.1, Int32.le_trans rr.1.nl.2 (by decide)⟩
  have h4 : 0 ≤ x2 ∧ x2 < 4 := ⟨hf.1, Int32.lt_of_lt_of_le hf.2 rr.1.nl.2⟩
  have h40 : 0 ≤ 6 + x2 ∧ 6 + x2 < 40 := by clear hf p4 p2 hx rr h0 hJ hQ; grind
  have b := z40r (z_w4 hx rr.2.st.2).1 h40
  rw [← Int32.add_assoc] at b
  exact zq_chk b fun _ => hQ _ h0
theorem q_f_M_thread {N : Nat} (hN : zBig ≤ N) {σ0 σ : zS} {x1 x2 x3 : Int32} {Q : Int32 × zS → Prop} (hJ : GE σ0 σ) (hQ : ∀ r, GE σ0 r.2 → Q r) : zq (zf_M_thread N σ x1 x2 x3) Q := by
  unfold zf_M_thread
  have h0 := hJ.t0 (v := 0)
  refine zq_ite (fun c1 => ?_) fun _ => hQ _ h0
  have rr := h0.rr c1
  have st := rr.2.st
  refine zq_bind (q_f_M_isState st fun r2 p2 => ?_)
  refine zq_ite (fun _ => hQ _ h0) fun c2 => ?_
  have hx := p2.resolve_left c2
  refine zq_bind (q_f_M_in fun r4 p4 => ?_)
  refine zq_ite (fun _ => hQ _ h0) fun c3 => ?_
  have ht : 0 ≤ x2 ∧ x2 < σ 82 17 := z_in p4 c3 ⟨rr.1.nt.1, Int32.le_trans rr.1.nt.2 (by decide)⟩
  have h4 : 0 ≤ x2 ∧ x2 < 4 := ⟨ht.1, Int32.lt_of_lt_of_le ht.2 rr.1.nt.2⟩
  refine zq_bind (q_f_M_in fun r6 p6 => ?_)
  refine zq_ite (fun c4 => ?_) fun _ => hQ _ h0
  refine zq_bind (q_f_M_load hN (σ0 := zx_up σ 82 0 0) ⟨fun _ _ => rfl, rr.1⟩ (z_w4 hx st.2).1 (rr.2.rw x1 hx.1 hx.2) fun r8 j8 => ?_)
  have g8 := h0.jn j8
  refine zq_ite (fun c5 => ?_) fun _ => ?_
  · refine zq_ite (fun c6 => ?_) fun _ => ?_
    · refine zq_ite (fun c7 => ?_) fun _ => ?_
      · refine zq_bind (q_f_M_at fun r12 p12 => ?_)
        refine zq_chk ?_ fun _ => hQ _ g8
        clear g8 j8 rr h0 hJ hQ p2 hx p4 c3 c1 st
        grind
      · refine zq_bind (q_f_M_canStep j8.refl ?_ fun r14 _ => zq_ite (fun _ => hQ _ g8) fun _ => hQ _ g8)
        rw [j8.fr 82 (by decide)]; exact ht
    · refine zq_bind (q_f_M_at fun r16 p16 => ?_)
      exact zq_chk (z_atr p16 h4) fun _ => hQ _ g8
  · exact zq_bind (q_f_M_stateOf h4 fun r18 _ => hQ _ g8)
theorem q_b_M_allSteps_4 {N : Nat} (hN : zBig ≤ N) {σ0 : zS} {σ : zS} {Q : (Int32) → Prop} (hJ : PGJ σ0 σ) (hQ : ∀ r, Q r) : ∀ (n : Nat) (v1 : Int32) (v2 : Int32), (0 ≤ v2) → zmu v2 < n → zq (zb_M_allSteps_4 N n σ v1 v2) Q := by
  intro n
  induction n with
  | zero => intro _ _ _ hn; exact absurd hn (Nat.not_lt_zero _)
  | succ n ih =>
    intro v1 v2 hI hn
    rw [zb_M_allSteps_4]
    have nt := hJ.nt
    refine zq_ite (fun c1 => ?_) fun c1 => ?_
    ·
      exact hQ _
    ·
      refine zq_chk (by (first | with_reducible assumption | omega | grind)) fun c2 => ?_
      exact ih (v1 + (σ 90 v2.toNatClampNeg)) (v2 + 1) (by (first | with_reducible assumption | omega | grind)) (by first | exact zmu_up (by assumption) hn | exact zmu_up (b := 2147483647) (by (first | with_reducible assumption | omega | grind)) hn | (first | with_reducible assumption | omega | grind))

theorem q_f_M_allSteps {N : Nat} (hN : zBig ≤ N) {σ0 : zS} {σ : zS} {Q : (Int32) → Prop} (hJ : PGJ σ0 σ) (hQ : ∀ r, Q r) : zq (zf_M_allSteps N σ) Q := by
  unfold zf_M_allSteps
  have nt := hJ.nt
  exact q_b_M_allSteps_4 hN (σ0 := σ0) hJ hQ N 0 0 (by (first | with_reducible assumption | omega | grind)) (by exact zmu_lt hN _)

theorem q_f_M_isStep {σ0 : zS} {σ : zS} {x1 : Int32} {x2 : Int32} {Q : (Int32) → Prop} (hJ : PGJ σ0 σ) (hQ : ∀ r, (r = 0 ∨ ((0 ≤ x1 ∧ x1 < (σ 82 17)) ∧ (0 ≤ x2 ∧ x2 < (σ 90 x1.toNatClampNeg)))) → Q r) : zq (zf_M_isStep σ x1 x2) Q := by
  unfold zf_M_isStep
  have nt := hJ.nt
  have st := hJ.st x1.toNatClampNeg
  refine zq_bind (q_f_M_in  fun r1 pr1 => ?_)
  refine zq_ite (fun c1 => ?_) fun c1 => ?_
  ·
    exact hQ _ (by (first | with_reducible assumption | omega | grind))
  ·
    refine zq_chk (by (first | with_reducible assumption | omega | grind)) fun c2 => ?_
    refine zq_bind (q_f_M_in  fun r4 pr4 => ?_)
    refine zq_ite (fun c3 => ?_) fun c3 => ?_
    ·
      exact hQ _ (by (first | with_reducible assumption | omega | grind))
    ·
      exact hQ _ (by (first | with_reducible assumption | omega | grind))

theorem q_b_M_isOf_47 {N : Nat} (hN : zBig ≤ N) {σ0 : zS} {σ : zS} {v1 : Int32} {Q : (Int32) → Prop} (hJ : RJ σ0 σ) (hQ : ∀ r, Q r) : ∀ (n : Nat) (v3 : Int32) (v4 : Int32), (((0 ≤ v1 ∧ v1 < 4000) ∧ (v3 = 0 ∨ v3 = 1)) ∧ 0 ≤ v4) → zmu v4 < n → zq (zb_M_isOf_47 N n σ v1 v3 v4) Q := by
  intro n
  induction n with
  | zero => intro _ _ _ hn; exact absurd hn (Nat.not_lt_zero _)
  | succ n ih =>
    intro v3 v4 hI hn
    rw [zb_M_isOf_47]
    have nt := hJ.pg.nt
    refine zq_ite (fun c1 => ?_) fun c1 => ?_
    ·
      refine zq_chk (by (first | with_reducible assumption | omega | grind)) fun c2 => ?_
      exact hQ _
    ·
      refine zq_ite (fun c3 => ?_) fun c3 => ?_
      ·
        show zq (zb_M_isOf_82 (zb_M_isOf_47 N n) N σ v1 v4) Q
        unfold zb_M_isOf_82
        show zq (zb_M_isOf_87 (zb_M_isOf_47 N n) N σ v1 v4 1) Q
        unfold zb_M_isOf_87
        exact ih 1 (v4 + 1) (by (first | with_reducible assumption | omega | grind)) (by first | exact zmu_up (by assumption) hn | exact zmu_up (b := 2147483647) (by (first | with_reducible assumption | omega | grind)) hn | (first | with_reducible assumption | omega | grind))
      ·
        refine zq_bind (q_f_M_at  fun r6 pr6 => ?_)
        refine zq_chk (by (first | with_reducible assumption | omega | grind)) fun c4 => ?_
        refine zq_ite (fun c5 => ?_) fun c5 => ?_
        ·
          show zq (zb_M_isOf_87 (zb_M_isOf_47 N n) N σ v1 v4 0) Q
          unfold zb_M_isOf_87
          exact ih 0 (v4 + 1) (by (first | with_reducible assumption | omega | grind)) (by first | exact zmu_up (by assumption) hn | exact zmu_up (b := 2147483647) (by (first | with_reducible assumption | omega | grind)) hn | (first | with_reducible assumption | omega | grind))
        ·
          show zq (zb_M_isOf_82 (zb_M_isOf_47 N n) N σ v1 v4) Q
          unfold zb_M_isOf_82
          show zq (zb_M_isOf_87 (zb_M_isOf_47 N n) N σ v1 v4 1) Q
          unfold zb_M_isOf_87
          exact ih 1 (v4 + 1) (by (first | with_reducible assumption | omega | grind)) (by first | exact zmu_up (by assumption) hn | exact zmu_up (b := 2147483647) (by (first | with_reducible assumption | omega | grind)) hn | (first | with_reducible assumption | omega | grind))

theorem q_f_M_isOf {N : Nat} (hN : zBig ≤ N) {σ0 : zS} {σ : zS} {x1 : Int32} {x2 : Int32} {Q : (Int32) → Prop} (hJ : RJ σ0 σ) (hP : 0 ≤ x1 ∧ x1 < 4000) (hQ : ∀ r, Q r) : zq (zf_M_isOf N σ x1 x2) Q := by
  unfold zf_M_isOf
  have nt := hJ.pg.nt
  refine zq_ite (fun c1 => ?_) fun c1 => ?_
  ·
    refine zq_ite (fun c2 => ?_) fun c2 => ?_
    ·
      exact q_b_M_isOf_47 hN (σ0 := σ0) hJ hQ N 0 0 (by (first | with_reducible assumption | omega | grind)) (by exact zmu_lt hN _)
    ·
      refine zq_chk (by (first | with_reducible assumption | omega | grind)) fun c3 => ?_
      refine zq_ite (fun c4 => ?_) fun c4 => ?_
      ·
        exact hQ _
      ·
        exact hQ _
  ·
    refine zq_chk (by (first | with_reducible assumption | omega | grind)) fun c5 => ?_
    refine zq_ite (fun c6 => ?_) fun c6 => ?_
    ·
      exact hQ _
    ·
      exact hQ _

theorem q_b_M_countOf_4 {N : Nat} (hN : zBig ≤ N) {σ0 : zS} {σ : zS} {v1 : Int32} {Q : (Int32) → Prop} (hJ : RJ σ0 σ) (hQ : ∀ r, Q r) : ∀ (n : Nat) (v2 : Int32) (v3 : Int32), (0 ≤ v3) → zmu v3 < n → zq (zb_M_countOf_4 N n σ v1 v2 v3) Q := by
  intro n
  induction n with
  | zero => intro _ _ _ hn; exact absurd hn (Nat.not_lt_zero _)
  | succ n ih =>
    intro v2 v3 hI hn
    rw [zb_M_countOf_4]
    have st := hJ.rr.st
    refine zq_ite (fun c1 => ?_) fun c1 => ?_
    ·
      exact hQ _
    ·
      refine zq_bind (q_f_M_isOf hN (σ0 := σ0) hJ (by (first | with_reducible assumption | omega | grind)) fun r2 => ?_)
      refine zq_ite (fun c2 => ?_) fun c2 => ?_
      ·
        show zq (zb_M_countOf_27 (zb_M_countOf_4 N n) N σ v1 v3 0 v2) Q
        unfold zb_M_countOf_27
        exact ih (v2 + 0) (v3 + 1) (by (first | with_reducible assumption | omega | grind)) (by first | exact zmu_up (by assumption) hn | exact zmu_up (b := 2147483647) (by (first | with_reducible assumption | omega | grind)) hn | (first | with_reducible assumption | omega | grind))
      ·
        show zq (zb_M_countOf_27 (zb_M_countOf_4 N n) N σ v1 v3 1 v2) Q
        unfold zb_M_countOf_27
        exact ih (v2 + 1) (v3 + 1) (by (first | with_reducible assumption | omega | grind)) (by first | exact zmu_up (by assumption) hn | exact zmu_up (b := 2147483647) (by (first | with_reducible assumption | omega | grind)) hn | (first | with_reducible assumption | omega | grind))

theorem q_f_M_countOf {N : Nat} (hN : zBig ≤ N) {σ0 : zS} {σ : zS} {x1 : Int32} {Q : (Int32) → Prop} (hJ : RJ σ0 σ) (hQ : ∀ r, Q r) : zq (zf_M_countOf N σ x1) Q := by
  unfold zf_M_countOf
  have st := hJ.rr.st
  exact q_b_M_countOf_4 hN (σ0 := σ0) hJ hQ N 0 0 (by (first | with_reducible assumption | omega | grind)) (by exact zmu_lt hN _)

theorem q_b_M_races_4 {N : Nat} (hN : zBig ≤ N) {σ0 : zS} {σ : zS} {Q : (Int32) → Prop} (hJ : RJ σ0 σ) (hQ : ∀ r, Q r) : ∀ (n : Nat) (v1 : Int32) (v2 : Int32), (0 ≤ v2) → zmu v2 < n → zq (zb_M_races_4 N n σ v1 v2) Q := by
  intro n
  induction n with
  | zero => intro _ _ _ hn; exact absurd hn (Nat.not_lt_zero _)
  | succ n ih =>
    intro v1 v2 hI hn
    rw [zb_M_races_4]
    refine zq_ite (fun c1 => ?_) fun c1 => ?_
    ·
      exact hQ _
    ·
      refine zq_chk (by (first | with_reducible assumption | omega | grind)) fun c2 => ?_
      refine zq_ite (fun c3 => ?_) fun c3 => ?_
      ·
        show zq (zb_M_races_26 (zb_M_races_4 N n) N σ v2 0 v1) Q
        unfold zb_M_races_26
        exact ih (v1 + 0) (v2 + 1) (by (first | with_reducible assumption | omega | grind)) (by first | exact zmu_up (by assumption) hn | exact zmu_up (b := 2147483647) (by (first | with_reducible assumption | omega | grind)) hn | (first | with_reducible assumption | omega | grind))
      ·
        show zq (zb_M_races_26 (zb_M_races_4 N n) N σ v2 1 v1) Q
        unfold zb_M_races_26
        exact ih (v1 + 1) (v2 + 1) (by (first | with_reducible assumption | omega | grind)) (by first | exact zmu_up (by assumption) hn | exact zmu_up (b := 2147483647) (by (first | with_reducible assumption | omega | grind)) hn | (first | with_reducible assumption | omega | grind))

theorem q_f_M_races {N : Nat} (hN : zBig ≤ N) {σ0 : zS} {σ : zS} {Q : (Int32) → Prop} (hJ : RJ σ0 σ) (hQ : ∀ r, Q r) : zq (zf_M_races N σ) Q := by
  unfold zf_M_races
  exact q_b_M_races_4 hN (σ0 := σ0) hJ hQ N 0 0 (by (first | with_reducible assumption | omega | grind)) (by exact zmu_lt hN _)

theorem q_b_M_pairOf_4 {N : Nat} (hN : zBig ≤ N) {σ0 : zS} {σ : zS} {v1 : Int32} {Q : (Int32) → Prop} (hJ : RJ σ0 σ) (hQ : ∀ r, (r = -1 ∨ ((0 ≤ r ∧ r < 9216) ∧ ¬ (σ 114 r.toNatClampNeg) ≤ 0)) → Q r) : ∀ (n : Nat) (v2 : Int32) (v3 : Int32), (0 ≤ v3) → zmu v3 < n → zq (zb_M_pairOf_4 N n σ v1 v2 v3) Q := by
  intro n
  induction n with
  | zero => intro _ _ _ hn; exact absurd hn (Nat.not_lt_zero _)
  | succ n ih =>
    intro v2 v3 hI hn
    rw [zb_M_pairOf_4]
    refine zq_ite (fun c1 => ?_) fun c1 => ?_
    ·
      exact hQ _ (by (first | with_reducible assumption | omega | grind))
    ·
      refine zq_ite (fun c2 => ?_) fun c2 => ?_
      ·
        exact hQ _ (by (first | with_reducible assumption | omega | grind))
      ·
        refine zq_chk (by (first | with_reducible assumption | omega | grind)) fun c3 => ?_
        refine zq_ite (fun c4 => ?_) fun c4 => ?_
        ·
          show zq (zb_M_pairOf_33 (zb_M_pairOf_4 N n) N σ v1 v2 v3) Q
          unfold zb_M_pairOf_33
          exact ih v2 (v3 + 1) (by (first | with_reducible assumption | omega | grind)) (by first | exact zmu_up (by assumption) hn | exact zmu_up (b := 2147483647) (by (first | with_reducible assumption | omega | grind)) hn | (first | with_reducible assumption | omega | grind))
        ·
          refine zq_ite (fun c5 => ?_) fun c5 => ?_
          ·
            show zq (zb_M_pairOf_33 (zb_M_pairOf_4 N n) N σ v1 (v2 + (-1)) v3) Q
            unfold zb_M_pairOf_33
            exact ih (v2 + (-1)) (v3 + 1) (by (first | with_reducible assumption | omega | grind)) (by first | exact zmu_up (by assumption) hn | exact zmu_up (b := 2147483647) (by (first | with_reducible assumption | omega | grind)) hn | (first | with_reducible assumption | omega | grind))
          ·
            exact hQ _ (by (first | with_reducible assumption | omega | grind))

theorem q_f_M_pairOf {N : Nat} (hN : zBig ≤ N) {σ0 : zS} {σ : zS} {x1 : Int32} {Q : (Int32) → Prop} (hJ : RJ σ0 σ) (hQ : ∀ r, (r = -1 ∨ ((0 ≤ r ∧ r < 9216) ∧ ¬ (σ 114 r.toNatClampNeg) ≤ 0)) → Q r) : zq (zf_M_pairOf N σ x1) Q := by
  unfold zf_M_pairOf
  exact q_b_M_pairOf_4 hN (σ0 := σ0) hJ hQ N x1 0 (by (first | with_reducible assumption | omega | grind)) (by exact zmu_lt hN _)

theorem q_f_M_ofPair {σ0 : zS} {σ : zS} {x1 : Int32} {x2 : Int32} {Q : (Int32) → Prop} (hJ : PGJ σ0 σ) (hP : 0 ≤ x1 ∧ x1 < 9216) (hQ : ∀ r, Q r) : zq (zf_M_ofPair σ x1 x2) Q := by
  unfold zf_M_ofPair
  refine zq_ite (fun c1 => ?_) fun c1 => ?_
  ·
    exact hQ _
  ·
    refine zq_ite (fun c2 => ?_) fun c2 => ?_
    ·
      exact hQ _
    ·
      refine zq_ite (fun c3 => ?_) fun c3 => ?_
      ·
        exact hQ _
      ·
        refine zq_ite (fun c4 => ?_) fun c4 => ?_
        ·
          exact hQ _
        ·
          refine zq_ite (fun c5 => ?_) fun c5 => ?_
          ·
            refine zq_chk (by have := z_div x1 96; have := z_d96 x1; (first | with_reducible assumption | omega | grind)) fun c6 => ?_
            exact hQ _
          ·
            exact hQ _

-- zf_M_behindOf
-- zf_M_reached
theorem q_b_M_isApart_91 {N : Nat} (hN : zBig ≤ N) {k15 : zS → Int32 → Int32 → Int32 → Int32 → Int32 → Int32 → Int32 → Int32 → Option (Int32)} {σ0 : zS} {σ : zS} {v1 : Int32} {v2 : Int32} {v3 : Int32} {v4 : Int32} {v6 : Int32} {v7 : Int32} {v8 : Int32} {v9 : Int32} {s0 : Int32} {Q : (Int32) → Prop} (hJ : PGJ σ0 σ) (hI : (0 ≤ v8 ∧ v8 < 96) ∧ (0 ≤ v2 ∧ v2 < 4)) (hk15_0 : zq (k15 σ v1 v2 v3 v4 s0 1 v7 (v8 + 1)) Q) (hk15_1 : zq (k15 σ v1 v2 v3 v4 s0 1 (v7 ||| (zJ_shl 1 (zJ_rem v8 24))) (v8 + 1)) Q) (hk15_2 : zq (k15 σ v1 v2 v3 v4 s0 0 v7 (v8 + 1)) Q) (hk15_3 : zq (k15 σ v1 v2 v3 v4 s0 0 (v7 ||| (zJ_shl 1 (zJ_rem v8 24))) (v8 + 1)) Q) : zq (zb_M_isApart_91 k15 N σ v1 v2 v3 v4 v6 v7 v8 v9 s0) Q := by
  unfold zb_M_isApart_91
  have nt := hJ.nt
  refine zq_ite (fun c1 => ?_) fun c1 => ?_
  ·
    show zq (zb_M_isApart_128 k15 N σ v1 v2 v3 v4 s0 v7 v8 v9) Q
    unfold zb_M_isApart_128
    show zq (zb_M_isApart_133 k15 N σ v1 v2 v3 v4 s0 v7 v8 v9 1) Q
    unfold zb_M_isApart_133
    show zq (zb_M_isApart_135 k15 N σ v1 v2 v3 v4 s0 1 v7 v8 v9) Q
    unfold zb_M_isApart_135
    refine zq_chk (by (first | with_reducible assumption | omega | grind)) fun c2 => ?_
    refine zq_ite (fun c3 => ?_) fun c3 => ?_
    ·
      show zq (zb_M_isApart_165 k15 N σ v1 v2 v3 v4 s0 1 v7 v8) Q
      unfold zb_M_isApart_165
      exact hk15_0  
    ·
      refine zq_ite (fun c4 => ?_) fun c4 => ?_
      ·
        show zq (zb_M_isApart_165 k15 N σ v1 v2 v3 v4 s0 1 v7 v8) Q
        unfold zb_M_isApart_165
        exact hk15_0  
      ·
        show zq (zb_M_isApart_165 k15 N σ v1 v2 v3 v4 s0 1 (v7 ||| (zJ_shl 1 (zJ_rem v8 24))) v8) Q
        unfold zb_M_isApart_165
        exact hk15_1  
  ·
    refine zq_ite (fun c5 => ?_) fun c5 => ?_
    ·
      show zq (zb_M_isApart_132 k15 N σ v1 v2 v3 v4 s0 v7 v8 v9) Q
      unfold zb_M_isApart_132
      show zq (zb_M_isApart_133 k15 N σ v1 v2 v3 v4 s0 v7 v8 v9 0) Q
      unfold zb_M_isApart_133
      show zq (zb_M_isApart_135 k15 N σ v1 v2 v3 v4 s0 0 v7 v8 v9) Q
      unfold zb_M_isApart_135
      refine zq_chk (by (first | with_reducible assumption | omega | grind)) fun c6 => ?_
      refine zq_ite (fun c7 => ?_) fun c7 => ?_
      ·
        show zq (zb_M_isApart_165 k15 N σ v1 v2 v3 v4 s0 0 v7 v8) Q
        unfold zb_M_isApart_165
        exact hk15_2  
      ·
        refine zq_ite (fun c8 => ?_) fun c8 => ?_
        ·
          show zq (zb_M_isApart_165 k15 N σ v1 v2 v3 v4 s0 0 v7 v8) Q
          unfold zb_M_isApart_165
          exact hk15_2  
        ·
          show zq (zb_M_isApart_165 k15 N σ v1 v2 v3 v4 s0 0 (v7 ||| (zJ_shl 1 (zJ_rem v8 24))) v8) Q
          unfold zb_M_isApart_165
          exact hk15_3  
    ·
      refine zq_bind (q_f_M_behindOf (σ0 := σ0) hJ (by have := z_d24 v8; have := z_d24 v8; (first | with_reducible assumption | omega | grind)) fun r19 => ?_)
      refine zq_bind (q_f_M_reached hN (σ0 := σ0) hJ (by (first | with_reducible assumption | omega | grind)) fun r20 => ?_)
      refine zq_ite (fun c9 => ?_) fun c9 => ?_
      ·
        show zq (zb_M_isApart_132 k15 N σ v1 v2 v3 v4 s0 v7 v8 v9) Q
        unfold zb_M_isApart_132
        show zq (zb_M_isApart_133 k15 N σ v1 v2 v3 v4 s0 v7 v8 v9 0) Q
        unfold zb_M_isApart_133
        show zq (zb_M_isApart_135 k15 N σ v1 v2 v3 v4 s0 0 v7 v8 v9) Q
        unfold zb_M_isApart_135
        refine zq_chk (by (first | with_reducible assumption | omega | grind)) fun c10 => ?_
        refine zq_ite (fun c11 => ?_) fun c11 => ?_
        ·
          show zq (zb_M_isApart_165 k15 N σ v1 v2 v3 v4 s0 0 v7 v8) Q
          unfold zb_M_isApart_165
          exact hk15_2  
        ·
          refine zq_ite (fun c12 => ?_) fun c12 => ?_
          ·
            show zq (zb_M_isApart_165 k15 N σ v1 v2 v3 v4 s0 0 v7 v8) Q
            unfold zb_M_isApart_165
            exact hk15_2  
          ·
            show zq (zb_M_isApart_165 k15 N σ v1 v2 v3 v4 s0 0 (v7 ||| (zJ_shl 1 (zJ_rem v8 24))) v8) Q
            unfold zb_M_isApart_165
            exact hk15_3  
      ·
        show zq (zb_M_isApart_128 k15 N σ v1 v2 v3 v4 s0 v7 v8 v9) Q
        unfold zb_M_isApart_128
        show zq (zb_M_isApart_133 k15 N σ v1 v2 v3 v4 s0 v7 v8 v9 1) Q
        unfold zb_M_isApart_133
        show zq (zb_M_isApart_135 k15 N σ v1 v2 v3 v4 s0 1 v7 v8 v9) Q
        unfold zb_M_isApart_135
        refine zq_chk (by (first | with_reducible assumption | omega | grind)) fun c13 => ?_
        refine zq_ite (fun c14 => ?_) fun c14 => ?_
        ·
          show zq (zb_M_isApart_165 k15 N σ v1 v2 v3 v4 s0 1 v7 v8) Q
          unfold zb_M_isApart_165
          exact hk15_0  
        ·
          refine zq_ite (fun c15 => ?_) fun c15 => ?_
          ·
            show zq (zb_M_isApart_165 k15 N σ v1 v2 v3 v4 s0 1 v7 v8) Q
            unfold zb_M_isApart_165
            exact hk15_0  
          ·
            show zq (zb_M_isApart_165 k15 N σ v1 v2 v3 v4 s0 1 (v7 ||| (zJ_shl 1 (zJ_rem v8 24))) v8) Q
            unfold zb_M_isApart_165
            exact hk15_1  

theorem q_b_M_isApart_15 {N : Nat} (hN : zBig ≤ N) {σ0 : zS} {σ : zS} {v1 : Int32} {v2 : Int32} {v3 : Int32} {Q : (Int32) → Prop} (hJ : PGJ σ0 σ) (hQ : ∀ r, Q r) : ∀ (n : Nat) (v4 : Int32) (v5 : Int32) (v6 : Int32) (v7 : Int32) (v8 : Int32), (((0 ≤ v2 ∧ v2 < 4)) ∧ 0 ≤ v8) → zmu v8 < n → zq (zb_M_isApart_15 N n σ v1 v2 v3 v4 v5 v6 v7 v8) Q := by
  intro n
  induction n with
  | zero => intro _ _ _ _ _ _ hn; exact absurd hn (Nat.not_lt_zero _)
  | succ n ih =>
    intro v4 v5 v6 v7 v8 hI hn
    rw [zb_M_isApart_15]
    have nt := hJ.nt
    refine zq_ite (fun c1 => ?_) fun c1 => ?_
    ·
      refine zq_ite (fun c2 => ?_) fun c2 => ?_
      ·
        show zq (zb_M_isApart_186 N σ v2 v3 v7) Q
        unfold zb_M_isApart_186
        refine zq_bind (q_f_M_reached hN (σ0 := σ0) hJ (by (first | with_reducible assumption | omega | grind)) fun r3 => ?_)
        refine zq_ite (fun c3 => ?_) fun c3 => ?_
        ·
          exact hQ _
        ·
          show zq (zb_M_isApart_201 N σ) Q
          unfold zb_M_isApart_201
          exact hQ _
      ·
        refine zq_ite (fun c4 => ?_) fun c4 => ?_
        ·
          show zq (zb_M_isApart_186 N σ v2 v3 v7) Q
          unfold zb_M_isApart_186
          refine zq_bind (q_f_M_reached hN (σ0 := σ0) hJ (by (first | with_reducible assumption | omega | grind)) fun r3 => ?_)
          refine zq_ite (fun c5 => ?_) fun c5 => ?_
          ·
            exact hQ _
          ·
            show zq (zb_M_isApart_201 N σ) Q
            unfold zb_M_isApart_201
            exact hQ _
        ·
          refine zq_ite (fun c6 => ?_) fun c6 => ?_
          ·
            show zq (zb_M_isApart_201 N σ) Q
            unfold zb_M_isApart_201
            exact hQ _
          ·
            show zq (zb_M_isApart_186 N σ v2 v3 v7) Q
            unfold zb_M_isApart_186
            refine zq_bind (q_f_M_reached hN (σ0 := σ0) hJ (by (first | with_reducible assumption | omega | grind)) fun r3 => ?_)
            refine zq_ite (fun c7 => ?_) fun c7 => ?_
            ·
              exact hQ _
            ·
              show zq (zb_M_isApart_201 N σ) Q
              unfold zb_M_isApart_201
              exact hQ _
    ·
      refine zq_chk (by have := z_div v8 24; have := z_d24 v8; (first | with_reducible assumption | omega | grind)) fun c8 => ?_
      refine zq_ite (fun c9 => ?_) fun c9 => ?_
      ·
        show zq (zb_M_isApart_165 (zb_M_isApart_15 N n) N σ v1 v2 v3 v4 v5 v6 v7 v8) Q
        unfold zb_M_isApart_165
        exact ih v4 v5 v6 v7 (v8 + 1) (by (first | with_reducible assumption | omega | grind)) (by first | exact zmu_up (by assumption) hn | exact zmu_up (b := 2147483647) (by (first | with_reducible assumption | omega | grind)) hn | (first | with_reducible assumption | omega | grind))
      ·
        refine zq_chk (by (first | with_reducible assumption | omega | grind)) fun c10 => ?_
        refine zq_ite (fun c11 => ?_) fun c11 => ?_
        ·
          show zq (zb_M_isApart_165 (zb_M_isApart_15 N n) N σ v1 v2 v3 v4 v5 v6 v7 v8) Q
          unfold zb_M_isApart_165
          exact ih v4 v5 v6 v7 (v8 + 1) (by (first | with_reducible assumption | omega | grind)) (by first | exact zmu_up (by assumption) hn | exact zmu_up (b := 2147483647) (by (first | with_reducible assumption | omega | grind)) hn | (first | with_reducible assumption | omega | grind))
        ·
          refine zq_chk (by (first | with_reducible assumption | omega | grind)) fun c12 => ?_
          refine zq_ite (fun c13 => ?_) fun c13 => ?_
          ·
            show zq (zb_M_isApart_135 (zb_M_isApart_15 N n) N σ v1 v2 v3 v4 v5 v6 v7 v8 (v8 / 24)) Q
            unfold zb_M_isApart_135
            refine zq_chk (by (first | with_reducible assumption | omega | grind)) fun c14 => ?_
            refine zq_ite (fun c15 => ?_) fun c15 => ?_
            ·
              show zq (zb_M_isApart_165 (zb_M_isApart_15 N n) N σ v1 v2 v3 v4 v5 v6 v7 v8) Q
              unfold zb_M_isApart_165
              exact ih v4 v5 v6 v7 (v8 + 1) (by (first | with_reducible assumption | omega | grind)) (by first | exact zmu_up (by assumption) hn | exact zmu_up (b := 2147483647) (by (first | with_reducible assumption | omega | grind)) hn | (first | with_reducible assumption | omega | grind))
            ·
              refine zq_ite (fun c16 => ?_) fun c16 => ?_
              ·
                show zq (zb_M_isApart_165 (zb_M_isApart_15 N n) N σ v1 v2 v3 v4 v5 v6 v7 v8) Q
                unfold zb_M_isApart_165
                exact ih v4 v5 v6 v7 (v8 + 1) (by (first | with_reducible assumption | omega | grind)) (by first | exact zmu_up (by assumption) hn | exact zmu_up (b := 2147483647) (by (first | with_reducible assumption | omega | grind)) hn | (first | with_reducible assumption | omega | grind))
              ·
                show zq (zb_M_isApart_165 (zb_M_isApart_15 N n) N σ v1 v2 v3 v4 v5 v6 (v7 ||| (zJ_shl 1 (zJ_rem v8 24))) v8) Q
                unfold zb_M_isApart_165
                exact ih v4 v5 v6 (v7 ||| (zJ_shl 1 (zJ_rem v8 24))) (v8 + 1) (by have := z_d24 v8; (first | with_reducible assumption | omega | grind)) (by first | exact zmu_up (by assumption) hn | exact zmu_up (b := 2147483647) (by (first | with_reducible assumption | omega | grind)) hn | (first | with_reducible assumption | omega | grind))
          ·
            refine zq_ite (fun c17 => ?_) fun c17 => ?_
            ·
              show zq (zb_M_isApart_90 (zb_M_isApart_15 N n) N σ v1 v2 v3 1 v6 v7 v8 (v8 / 24)) Q
              unfold zb_M_isApart_90
              exact q_b_M_isApart_91 hN (σ0 := σ0) hJ (by have := z_div v8 24; have := z_d24 v8; (first | with_reducible assumption | omega | grind)) (ih 1 0 1 v7 (v8 + 1) (by (first | with_reducible assumption | omega | grind)) (by first | exact zmu_up (by assumption) hn | exact zmu_up (b := 2147483647) (by (first | with_reducible assumption | omega | grind)) hn | (first | with_reducible assumption | omega | grind))) (ih 1 0 1 (v7 ||| (zJ_shl 1 (zJ_rem v8 24))) (v8 + 1) (by have := z_d24 v8; (first | with_reducible assumption | omega | grind)) (by first | exact zmu_up (by assumption) hn | exact zmu_up (b := 2147483647) (by (first | with_reducible assumption | omega | grind)) hn | (first | with_reducible assumption | omega | grind))) (ih 1 0 0 v7 (v8 + 1) (by (first | with_reducible assumption | omega | grind)) (by first | exact zmu_up (by assumption) hn | exact zmu_up (b := 2147483647) (by (first | with_reducible assumption | omega | grind)) hn | (first | with_reducible assumption | omega | grind))) (ih 1 0 0 (v7 ||| (zJ_shl 1 (zJ_rem v8 24))) (v8 + 1) (by have := z_d24 v8; (first | with_reducible assumption | omega | grind)) (by first | exact zmu_up (by assumption) hn | exact zmu_up (b := 2147483647) (by (first | with_reducible assumption | omega | grind)) hn | (first | with_reducible assumption | omega | grind)))
            ·
              refine zq_ite (fun c18 => ?_) fun c18 => ?_
              ·
                show zq (zb_M_isApart_90 (zb_M_isApart_15 N n) N σ v1 v2 v3 1 v6 v7 v8 (v8 / 24)) Q
                unfold zb_M_isApart_90
                exact q_b_M_isApart_91 hN (σ0 := σ0) hJ (by have := z_div v8 24; have := z_d24 v8; (first | with_reducible assumption | omega | grind)) (ih 1 0 1 v7 (v8 + 1) (by (first | with_reducible assumption | omega | grind)) (by first | exact zmu_up (by assumption) hn | exact zmu_up (b := 2147483647) (by (first | with_reducible assumption | omega | grind)) hn | (first | with_reducible assumption | omega | grind))) (ih 1 0 1 (v7 ||| (zJ_shl 1 (zJ_rem v8 24))) (v8 + 1) (by have := z_d24 v8; (first | with_reducible assumption | omega | grind)) (by first | exact zmu_up (by assumption) hn | exact zmu_up (b := 2147483647) (by (first | with_reducible assumption | omega | grind)) hn | (first | with_reducible assumption | omega | grind))) (ih 1 0 0 v7 (v8 + 1) (by (first | with_reducible assumption | omega | grind)) (by first | exact zmu_up (by assumption) hn | exact zmu_up (b := 2147483647) (by (first | with_reducible assumption | omega | grind)) hn | (first | with_reducible assumption | omega | grind))) (ih 1 0 0 (v7 ||| (zJ_shl 1 (zJ_rem v8 24))) (v8 + 1) (by have := z_d24 v8; (first | with_reducible assumption | omega | grind)) (by first | exact zmu_up (by assumption) hn | exact zmu_up (b := 2147483647) (by (first | with_reducible assumption | omega | grind)) hn | (first | with_reducible assumption | omega | grind)))
              ·
                exact q_b_M_isApart_91 hN (σ0 := σ0) hJ (by have := z_div v8 24; have := z_d24 v8; (first | with_reducible assumption | omega | grind)) (ih 1 1 1 v7 (v8 + 1) (by (first | with_reducible assumption | omega | grind)) (by first | exact zmu_up (by assumption) hn | exact zmu_up (b := 2147483647) (by (first | with_reducible assumption | omega | grind)) hn | (first | with_reducible assumption | omega | grind))) (ih 1 1 1 (v7 ||| (zJ_shl 1 (zJ_rem v8 24))) (v8 + 1) (by have := z_d24 v8; (first | with_reducible assumption | omega | grind)) (by first | exact zmu_up (by assumption) hn | exact zmu_up (b := 2147483647) (by (first | with_reducible assumption | omega | grind)) hn | (first | with_reducible assumption | omega | grind))) (ih 1 1 0 v7 (v8 + 1) (by (first | with_reducible assumption | omega | grind)) (by first | exact zmu_up (by assumption) hn | exact zmu_up (b := 2147483647) (by (first | with_reducible assumption | omega | grind)) hn | (first | with_reducible assumption | omega | grind))) (ih 1 1 0 (v7 ||| (zJ_shl 1 (zJ_rem v8 24))) (v8 + 1) (by have := z_d24 v8; (first | with_reducible assumption | omega | grind)) (by first | exact zmu_up (by assumption) hn | exact zmu_up (b := 2147483647) (by (first | with_reducible assumption | omega | grind)) hn | (first | with_reducible assumption | omega | grind)))

theorem q_f_M_isApart {N : Nat} (hN : zBig ≤ N) {σ0 : zS} {σ : zS} {x1 : Int32} {x2 : Int32} {x3 : Int32} {Q : (Int32) → Prop} (hJ : PGJ σ0 σ) (hP : (0 ≤ x2 ∧ x2 < 4)) (hQ : ∀ r, Q r) : zq (zf_M_isApart N σ x1 x2 x3) Q := by
  unfold zf_M_isApart
  have nt := hJ.nt
  exact q_b_M_isApart_15 hN (σ0 := σ0) hJ hQ N 0 1 0 0 0 (by (first | with_reducible assumption | omega | grind)) (by exact zmu_lt hN _)

theorem q_f_M_meets {N : Nat} (hN : zBig ≤ N) {σ0 : zS} {σ : zS} {x1 : Int32} {x2 : Int32} {x3 : Int32} {x4 : Int32} {Q : (Int32) → Prop} (hJ : PGJ σ0 σ) (hP : (0 ≤ x1 ∧ x1 < 4) ∧ (0 ≤ x3 ∧ x3 < 4)) (hQ : ∀ r, Q r) : zq (zf_M_meets N σ x1 x2 x3 x4) Q := by
  unfold zf_M_meets
  refine zq_bind (q_f_M_isApart hN (σ0 := σ0) hJ (by (first | with_reducible assumption | omega | grind)) fun r1 => ?_)
  refine zq_ite (fun c1 => ?_) fun c1 => ?_
  ·
    exact hQ _
  ·
    refine zq_bind (q_f_M_isApart hN (σ0 := σ0) hJ (by (first | with_reducible assumption | omega | grind)) fun r3 => ?_)
    refine zq_ite (fun c2 => ?_) fun c2 => ?_
    ·
      exact hQ _
    ·
      exact hQ _

theorem q_f_M_isDoubt {N : Nat} (hN : zBig ≤ N) {σ0 σ : zS} {x1 x2 S : Int32} {Q : Int32 → Prop} (hJ : PGJ σ0 σ) (h1 : 0 ≤ x1 ∧ x1 < 96) (h2 : 0 ≤ x2 ∧ x2 < 96) (ok : SK σ x1.toNatClampNeg S) (hQ : ∀ r, Q r) : zq (zf_M_isDoubt N σ x1 x2) Q :=
  q_f_M_isDoubt0 hN (σ0 := σ0) (fun h k => q_f_M_meets hN (σ0 := σ0) hJ h k) h1 h2 ok hQ

theorem q_b_M_doubtAt_29 {N : Nat} (hN : zBig ≤ N) {k5 : zS → Int32 → Int32 → Int32 → Int32 → Option (Int32)} {σ0 : zS} {σ : zS} {v1 : Int32} {v2 : Int32} {v4 : Int32} {Q : (Int32) → Prop} (hJ : PGJ σ0 σ) (hQ : ∀ r, (v2 = 0 → (r = -1 ∨ (0 ≤ r ∧ r < 9216))) → Q r) (hk5_0 : ∀ (y3 : Int32), zq (k5 σ v1 v2 y3 (v4 + 1)) Q) : ∀ (n : Nat) (v3 : Int32) (v5 : Int32), ((0 ≤ v4 ∧ v4 < 24 * (σ 82 17)) ∧ 0 ≤ v5) → zmu v5 < n → zq (zb_M_doubtAt_29 k5 N n σ v1 v2 v3 v4 v5) Q := by
  intro n
  induction n with
  | zero => intro _ _ _ hn; exact absurd hn (Nat.not_lt_zero _)
  | succ n ih =>
    intro v3 v5 hI hn
    rw [zb_M_doubtAt_29]
    have nt := hJ.nt
    refine zq_ite (fun c1 => ?_) fun c1 => ?_
    ·
      show zq (zb_M_doubtAt_115 k5 N σ v1 v2 v3 v4) Q
      unfold zb_M_doubtAt_115
      exact hk5_0 v3 
    ·
      refine zq_chk (by have := z_div v4 24; have := z_d24 v4; (first | with_reducible assumption | omega | grind)) fun c2 => ?_
      refine zq_ite (fun c3 => ?_) fun c3 => ?_
      ·
        show zq (zb_M_doubtAt_115 k5 N σ v1 v2 v3 v4) Q
        unfold zb_M_doubtAt_115
        exact hk5_0 v3 
      ·
        refine zq_chk (by have := z_div v5 24; have := z_d24 v5; (first | with_reducible assumption | omega | grind)) fun c4 => ?_
        refine zq_ite (fun c5 => ?_) fun c5 => ?_
        ·
          show zq (zb_M_doubtAt_109 (zb_M_doubtAt_29 k5 N n) N σ v1 v2 v3 v4 v5) Q
          unfold zb_M_doubtAt_109
          exact ih v3 (v5 + 1) (by (first | with_reducible assumption | omega | grind)) (by first | exact zmu_up (by assumption) hn | exact zmu_up (b := 2147483647) (by (first | with_reducible assumption | omega | grind)) hn | (first | with_reducible assumption | omega | grind))
        ·
          refine zq_bind (q_f_M_isDoubt hN (σ0 := σ0) hJ (by have := (hJ.okk (k := v4) (by (first | with_reducible assumption | omega | grind)) (by (first | with_reducible assumption | omega | grind)) (by (first | with_reducible assumption | omega | grind))).1; exact ⟨by (first | with_reducible assumption | omega | grind), this⟩) (by (first | with_reducible assumption | omega | grind)) (hJ.okk (k := v4) (by (first | with_reducible assumption | omega | grind)) (by (first | with_reducible assumption | omega | grind)) (by (first | with_reducible assumption | omega | grind))).2 fun r8 => ?_)
          refine zq_ite (fun c6 => ?_) fun c6 => ?_
          ·
            show zq (zb_M_doubtAt_109 (zb_M_doubtAt_29 k5 N n) N σ v1 v2 v3 v4 v5) Q
            unfold zb_M_doubtAt_109
            exact ih v3 (v5 + 1) (by (first | with_reducible assumption | omega | grind)) (by first | exact zmu_up (by assumption) hn | exact zmu_up (b := 2147483647) (by (first | with_reducible assumption | omega | grind)) hn | (first | with_reducible assumption | omega | grind))
          ·
            refine zq_ite (fun c7 => ?_) fun c7 => ?_
            ·
              show zq (zb_M_doubtAt_106 (zb_M_doubtAt_29 k5 N n) N σ v1 v2 v3 v4 v5) Q
              unfold zb_M_doubtAt_106
              show zq (zb_M_doubtAt_109 (zb_M_doubtAt_29 k5 N n) N σ v1 v2 (v3 + 1) v4 v5) Q
              unfold zb_M_doubtAt_109
              exact ih (v3 + 1) (v5 + 1) (by (first | with_reducible assumption | omega | grind)) (by first | exact zmu_up (by assumption) hn | exact zmu_up (b := 2147483647) (by (first | with_reducible assumption | omega | grind)) hn | (first | with_reducible assumption | omega | grind))
            ·
              refine zq_ite (fun c8 => ?_) fun c8 => ?_
              ·
                show zq (zb_M_doubtAt_106 (zb_M_doubtAt_29 k5 N n) N σ v1 v2 v3 v4 v5) Q
                unfold zb_M_doubtAt_106
                show zq (zb_M_doubtAt_109 (zb_M_doubtAt_29 k5 N n) N σ v1 v2 (v3 + 1) v4 v5) Q
                unfold zb_M_doubtAt_109
                exact ih (v3 + 1) (v5 + 1) (by (first | with_reducible assumption | omega | grind)) (by first | exact zmu_up (by assumption) hn | exact zmu_up (b := 2147483647) (by (first | with_reducible assumption | omega | grind)) hn | (first | with_reducible assumption | omega | grind))
              ·
                exact hQ _ (by (first | with_reducible assumption | omega | grind))

theorem q_b_M_doubtAt_5 {N : Nat} (hN : zBig ≤ N) {σ0 : zS} {σ : zS} {v1 : Int32} {v2 : Int32} {Q : (Int32) → Prop} (hJ : PGJ σ0 σ) (hQ : ∀ r, (v2 = 0 → (r = -1 ∨ (0 ≤ r ∧ r < 9216))) → Q r) : ∀ (n : Nat) (v3 : Int32) (v4 : Int32), (0 ≤ v4) → zmu v4 < n → zq (zb_M_doubtAt_5 N n σ v1 v2 v3 v4) Q := by
  intro n
  induction n with
  | zero => intro _ _ _ hn; exact absurd hn (Nat.not_lt_zero _)
  | succ n ih =>
    intro v3 v4 hI hn
    rw [zb_M_doubtAt_5]
    have nt := hJ.nt
    refine zq_ite (fun c1 => ?_) fun c1 => ?_
    ·
      refine zq_ite (fun c2 => ?_) fun c2 => ?_
      ·
        exact hQ _ (by (first | with_reducible assumption | omega | grind))
      ·
        exact hQ _ (by (first | with_reducible assumption | omega | grind))
    ·
      exact q_b_M_doubtAt_29 hN (σ0 := σ0) hJ hQ (fun y3 => ih y3 (v4 + 1) (by (first | with_reducible assumption | omega | grind)) (by first | exact zmu_up (by assumption) hn | exact zmu_up (b := 2147483647) (by (first | with_reducible assumption | omega | grind)) hn | (first | with_reducible assumption | omega | grind))) N v3 (24 * ((v4 / 24) + 1)) (by have := z_div v4 24; have := z_d24 v4; have := z_div v4 24; have := z_d24 v4; (first | with_reducible assumption | omega | grind)) (by exact zmu_lt hN _)

theorem q_f_M_doubtAt {N : Nat} (hN : zBig ≤ N) {σ0 : zS} {σ : zS} {x1 : Int32} {x2 : Int32} {Q : (Int32) → Prop} (hJ : PGJ σ0 σ) (hQ : ∀ r, (x2 = 0 → (r = -1 ∨ (0 ≤ r ∧ r < 9216))) → Q r) : zq (zf_M_doubtAt N σ x1 x2) Q := by
  unfold zf_M_doubtAt
  have nt := hJ.nt
  exact q_b_M_doubtAt_5 hN (σ0 := σ0) hJ hQ N 0 0 (by (first | with_reducible assumption | omega | grind)) (by exact zmu_lt hN _)

theorem q_f_M_isTaking {σ0 : zS} {σ : zS} {x1 : Int32} {Q : (Int32) → Prop} (hJ : PGJ σ0 σ) (hP : (0 ≤ x1 ∧ x1 < 96)) (hQ : ∀ r, Q r) : zq (zf_M_isTaking σ x1) Q := by
  unfold zf_M_isTaking
  refine zq_chk (by have := z_div x1 24; have := z_d24 x1; (first | with_reducible assumption | omega | grind)) fun c1 => ?_
  refine zq_ite (fun c2 => ?_) fun c2 => ?_
  ·
    exact hQ _
  ·
    refine zq_chk (by (first | with_reducible assumption | omega | grind)) fun c3 => ?_
    refine zq_ite (fun c4 => ?_) fun c4 => ?_
    ·
      exact hQ _
    ·
      exact hQ _

theorem q_f_M_isHeld {σ0 : zS} {σ : zS} {x1 : Int32} {x2 : Int32} {Q : (Int32) → Prop} (hJ : PGJ σ0 σ) (hP : (0 ≤ x1 ∧ x1 < 96) ∧ (0 ≤ x2 ∧ x2 < 96)) (hQ : ∀ r, Q r) : zq (zf_M_isHeld σ x1 x2) Q := by
  unfold zf_M_isHeld
  refine zq_chk (by (first | with_reducible assumption | omega | grind)) fun c1 => ?_
  refine zq_chk (by (first | with_reducible assumption | omega | grind)) fun c2 => ?_
  refine zq_ite (fun c3 => ?_) fun c3 => ?_
  ·
    exact hQ _
  ·
    exact hQ _

theorem q_f_M_goTogether {N : Nat} (hN : zBig ≤ N) {σ0 : zS} {σ : zS} {x1 : Int32} {x2 : Int32} {Q : (Int32) → Prop} (hJ : PGJ σ0 σ) (hP : (0 ≤ x1 ∧ x1 < 96) ∧ (0 ≤ x2 ∧ x2 < 96)) (hQ : ∀ r, Q r) : zq (zf_M_goTogether N σ x1 x2) Q := by
  unfold zf_M_goTogether
  refine zq_ite (fun c1 => ?_) fun c1 => ?_
  ·
    exact hQ _
  ·
    refine zq_chk (by (first | with_reducible assumption | omega | grind)) fun c2 => ?_
    refine zq_chk (by (first | with_reducible assumption | omega | grind)) fun c3 => ?_
    refine zq_ite (fun c4 => ?_) fun c4 => ?_
    ·
      exact hQ _
    ·
      refine zq_chk (by (first | with_reducible assumption | omega | grind)) fun c5 => ?_
      refine zq_chk (by (first | with_reducible assumption | omega | grind)) fun c6 => ?_
      refine zq_ite (fun c7 => ?_) fun c7 => ?_
      ·
        exact hQ _
      ·
        refine zq_bind (q_f_M_meets hN (σ0 := σ0) hJ (by have := z_div x1 24; have := z_d24 x1; have := z_div x2 24; have := z_d24 x2; have := z_div x1 24; have := z_d24 x1; have := z_div x2 24; have := z_d24 x2; (first | with_reducible assumption | omega | grind)) fun r8 => ?_)
        refine zq_ite (fun c8 => ?_) fun c8 => ?_
        ·
          exact hQ _
        ·
          exact hQ _
theorem q_f_M_fault {σ0 : zS} {σ : zS} {Q : (Int32 × zS) → Prop} (hJ : GE σ0 σ) (hQ : ∀ r, GE σ0 r.2 → Q r) : zq (zf_M_fault σ) Q := by
  unfold zf_M_fault
  exact hQ _ (GE.t0 hJ)

theorem q_f_M_count {N : Nat} (hN : zBig ≤ N) {σ0 : zS} {σ : zS} {x1 : Int32} {Q : (Int32 × zS) → Prop} (hJ : GE σ0 σ) (hQ : ∀ r, GE σ0 r.2 → Q r) : zq (zf_M_count N σ x1) Q := by
  unfold zf_M_count
  refine zq_ite (fun c1 => ?_) fun c1 => ?_
  ·
    refine zq_ite (fun c2 => ?_) fun c2 => ?_
    ·
      exact hQ _ (GE.t0 hJ)
    ·
      refine zq_ite (fun c3 => ?_) fun c3 => ?_
      ·
        exact hQ _ (GE.t0 hJ)
      ·
        refine zq_ite (fun c4 => ?_) fun c4 => ?_
        ·
          exact hQ _ (GE.t0 hJ)
        ·
          refine zq_ite (fun c5 => ?_) fun c5 => ?_
          ·
            exact hQ _ (GE.t0 hJ)
          ·
            refine zq_ite (fun c6 => ?_) fun c6 => ?_
            ·
              refine zq_bind (q_f_M_allSteps hN (σ0 := σ0) (((GE.t0 hJ)).pg c1) fun r7 => ?_)
              exact hQ _ (GE.t0 hJ)
            ·
              exact hQ _ (GE.t0 hJ)
  ·
    exact hQ _ (GE.t0 hJ)

theorem q_b_M_step_93 {σ0 : zS} {σ : zS} {v3 : Int32} {v4 : Int32} {s0 : Int32} {Q : (Int32 × zS) → Prop} (hJ : GE σ0 σ) (hI : (0 ≤ v4 ∧ v4 < 96)) (hQ : ∀ r, GE σ0 r.2 → Q r) : zq (zb_M_step_93 σ v3 v4 s0) Q := by
  unfold zb_M_step_93
  refine zq_ite (fun c1 => ?_) fun c1 => ?_
  ·
    refine zq_chk (by (first | with_reducible assumption | omega | grind)) fun c2 => ?_
    exact hQ _ hJ
  ·
    refine zq_ite (fun c3 => ?_) fun c3 => ?_
    ·
      refine zq_ite (fun c4 => ?_) fun c4 => ?_
      ·
        exact hQ _ hJ
      ·
        refine zq_chk (by (first | with_reducible assumption | omega | grind)) fun c5 => ?_
        exact hQ _ hJ
    ·
      refine zq_ite (fun c6 => ?_) fun c6 => ?_
      ·
        refine zq_chk (by (first | with_reducible assumption | omega | grind)) fun c7 => ?_
        exact hQ _ hJ
      ·
        refine zq_ite (fun c8 => ?_) fun c8 => ?_
        ·
          refine zq_chk (by (first | with_reducible assumption | omega | grind)) fun c9 => ?_
          refine zq_ite (fun c10 => ?_) fun c10 => ?_
          ·
            show zq (zb_M_step_192 σ v4) Q
            unfold zb_M_step_192
            refine zq_chk (by (first | with_reducible assumption | omega | grind)) fun c11 => ?_
            exact hQ _ hJ
          ·
            refine zq_chk (by (first | with_reducible assumption | omega | grind)) fun c12 => ?_
            refine zq_ite (fun c13 => ?_) fun c13 => ?_
            ·
              exact hQ _ hJ
            ·
              show zq (zb_M_step_192 σ v4) Q
              unfold zb_M_step_192
              refine zq_chk (by (first | with_reducible assumption | omega | grind)) fun c14 => ?_
              exact hQ _ hJ
        ·
          refine zq_ite (fun c15 => ?_) fun c15 => ?_
          ·
            refine zq_chk (by (first | with_reducible assumption | omega | grind)) fun c16 => ?_
            exact hQ _ hJ
          ·
            refine zq_ite (fun c17 => ?_) fun c17 => ?_
            ·
              refine zq_chk (by (first | with_reducible assumption | omega | grind)) fun c18 => ?_
              exact hQ _ hJ
            ·
              exact hQ _ hJ

theorem q_f_M_step {σ0 : zS} {σ : zS} {x1 : Int32} {x2 : Int32} {x3 : Int32} {Q : (Int32 × zS) → Prop} (hJ : GE σ0 σ) (hQ : ∀ r, GE σ0 r.2 → Q r) : zq (zf_M_step σ x1 x2 x3) Q := by
  unfold zf_M_step
  refine zq_ite (fun c1 => ?_) fun c1 => ?_
  ·
    refine zq_bind (q_f_M_isStep (σ0 := σ0) (((GE.t0 hJ)).pg c1) fun r2 pr2 => ?_)
    have qr2 : r2 = 0 ∨ ((0 ≤ x1 ∧ x1 < σ 82 17) ∧ (0 ≤ x2 ∧ x2 < σ 90 x1.toNatClampNeg)) := pr2
    have nt := (hJ.pg c1).nt
    have str2 := (hJ.pg c1).st x1.toNatClampNeg
    refine zq_ite (fun c2 => ?_) fun c2 => ?_
    ·
      refine zq_chk (by (first | with_reducible assumption | omega | grind)) fun c3 => ?_
      refine zq_ite (fun c4 => ?_) fun c4 => ?_
      ·
        show zq (zb_M_step_88 (zx_up σ 82 0 0) x3 ((24 * x1) + x2)) Q
        unfold zb_M_step_88
        exact q_b_M_step_93 (GE.t0 hJ) (by (first | with_reducible assumption | omega | grind)) hQ
      ·
        refine zq_chk (by (first | with_reducible assumption | omega | grind)) fun c5 => ?_
        refine zq_ite (fun c6 => ?_) fun c6 => ?_
        ·
          show zq (zb_M_step_88 (zx_up σ 82 0 0) x3 ((24 * x1) + x2)) Q
          unfold zb_M_step_88
          exact q_b_M_step_93 (GE.t0 hJ) (by (first | with_reducible assumption | omega | grind)) hQ
        ·
          refine zq_chk (by (first | with_reducible assumption | omega | grind)) fun c7 => ?_
          refine zq_bind (q_f_M_in  fun r26 pr26 => ?_)
          refine zq_ite (fun c8 => ?_) fun c8 => ?_
          ·
            show zq (zb_M_step_88 (zx_up σ 82 0 0) x3 ((24 * x1) + x2)) Q
            unfold zb_M_step_88
            exact q_b_M_step_93 (GE.t0 hJ) (by (first | with_reducible assumption | omega | grind)) hQ
          ·
            refine zq_chk (by (first | with_reducible assumption | omega | grind)) fun c9 => ?_
            refine zq_bind (q_f_M_in  fun r29 pr29 => ?_)
            refine zq_ite (fun c10 => ?_) fun c10 => ?_
            ·
              exact q_b_M_step_93 (GE.t0 hJ) (by (first | with_reducible assumption | omega | grind)) hQ
            ·
              show zq (zb_M_step_88 (zx_up σ 82 0 0) x3 ((24 * x1) + x2)) Q
              unfold zb_M_step_88
              exact q_b_M_step_93 (GE.t0 hJ) (by (first | with_reducible assumption | omega | grind)) hQ
    ·
      exact hQ _ (GE.t0 hJ)
  ·
    exact hQ _ (GE.t0 hJ)

theorem q_f_M_found {N : Nat} (hN : zBig ≤ N) {σ0 : zS} {σ : zS} {x1 : Int32} {Q : (Int32 × zS) → Prop} (hJ : GE σ0 σ) (hQ : ∀ r, GE σ0 r.2 → Q r) : zq (zf_M_found N σ x1) Q := by
  unfold zf_M_found
  refine zq_ite (fun c1 => ?_) fun c1 => ?_
  ·
    refine zq_ite (fun c2 => ?_) fun c2 => ?_
    ·
      refine zq_bind (q_f_M_countOf hN (σ0 := σ0) ⟨(((GE.t0 hJ)).rr c1).1, (((GE.t0 hJ)).rr c1).2⟩ fun r10 => ?_)
      exact hQ _ (GE.t0 hJ)
    ·
      refine zq_ite (fun c3 => ?_) fun c3 => ?_
      ·
        refine zq_bind (q_f_M_countOf hN (σ0 := σ0) ⟨(((GE.t0 hJ)).rr c1).1, (((GE.t0 hJ)).rr c1).2⟩ fun r9 => ?_)
        exact hQ _ (GE.t0 hJ)
      ·
        refine zq_ite (fun c4 => ?_) fun c4 => ?_
        ·
          refine zq_bind (q_f_M_races hN (σ0 := σ0) ⟨(((GE.t0 hJ)).rr c1).1, (((GE.t0 hJ)).rr c1).2⟩ fun r8 => ?_)
          exact hQ _ (GE.t0 hJ)
        ·
          refine zq_ite (fun c5 => ?_) fun c5 => ?_
          ·
            exact hQ _ (GE.t0 hJ)
          ·
            refine zq_ite (fun c6 => ?_) fun c6 => ?_
            ·
              refine zq_bind (q_f_M_countOf hN (σ0 := σ0) ⟨(((GE.t0 hJ)).rr c1).1, (((GE.t0 hJ)).rr c1).2⟩ fun r7 => ?_)
              exact hQ _ (GE.t0 hJ)
            ·
              exact hQ _ (GE.t0 hJ)
  ·
    exact hQ _ (GE.t0 hJ)

theorem q_f_M_length {σ0 : zS} {σ : zS} {Q : (Int32 × zS) → Prop} (hJ : GE σ0 σ) (hQ : ∀ r, GE σ0 r.2 → Q r) : zq (zf_M_length σ) Q := by
  unfold zf_M_length
  refine zq_ite (fun c1 => ?_) fun c1 => ?_
  ·
    exact hQ _ (GE.t0 hJ)
  ·
    refine zq_ite (fun c2 => ?_) fun c2 => ?_
    ·
      exact hQ _ (GE.t0 hJ)
    ·
      exact hQ _ (GE.t0 hJ)

theorem q_f_M_who {σ0 : zS} {σ : zS} {x1 : Int32} {Q : (Int32 × zS) → Prop} (hJ : GE σ0 σ) (hQ : ∀ r, GE σ0 r.2 → Q r) : zq (zf_M_who σ x1) Q := by
  unfold zf_M_who
  have sc := hJ.sc
  refine zq_ite (fun c1 => ?_) fun c1 => ?_
  ·
    exact hQ _ (GE.t0 hJ)
  ·
    refine zq_ite (fun c2 => ?_) fun c2 => ?_
    ·
      refine zq_bind (q_f_M_in  fun r3 pr3 => ?_)
      refine zq_ite (fun c3 => ?_) fun c3 => ?_
      ·
        exact hQ _ (GE.t0 hJ)
      ·
        refine zq_chk (by (first | with_reducible assumption | omega | grind)) fun c4 => ?_
        exact hQ _ (GE.t0 hJ)
    ·
      exact hQ _ (GE.t0 hJ)

theorem q_f_M_race {N : Nat} (hN : zBig ≤ N) {σ0 : zS} {σ : zS} {x1 : Int32} {x2 : Int32} {Q : (Int32 × zS) → Prop} (hJ : GE σ0 σ) (hQ : ∀ r, GE σ0 r.2 → Q r) : zq (zf_M_race N σ x1 x2) Q := by
  unfold zf_M_race
  refine zq_ite (fun c1 => ?_) fun c1 => ?_
  ·
    refine zq_bind (q_f_M_pairOf hN (σ0 := σ0) ⟨(((GE.t0 hJ)).rr c1).1, (((GE.t0 hJ)).rr c1).2⟩ fun r2 pr2 => ?_)
    refine zq_ite (fun c2 => ?_) fun c2 => ?_
    ·
      refine zq_bind (q_f_M_ofPair (σ0 := σ0) (((GE.t0 hJ)).rr c1).1 (by (first | with_reducible assumption | omega | grind)) fun r4 => ?_)
      exact hQ _ (GE.t0 hJ)
    ·
      exact hQ _ (GE.t0 hJ)
  ·
    exact hQ _ (GE.t0 hJ)

theorem q_f_M_doubts {N : Nat} (hN : zBig ≤ N) {σ0 : zS} {σ : zS} {Q : (Int32 × zS) → Prop} (hJ : GE σ0 σ) (hQ : ∀ r, GE σ0 r.2 → Q r) : zq (zf_M_doubts N σ) Q := by
  unfold zf_M_doubts
  refine zq_ite (fun c1 => ?_) fun c1 => ?_
  ·
    exact hQ _ (GE.t0 hJ)
  ·
    refine zq_bind (q_f_M_doubtAt hN (σ0 := σ0) (((GE.t0 hJ)).pg c1) fun r2 pr2 => ?_)
    exact hQ _ (GE.t0 hJ)

theorem q_f_M_doubt {N : Nat} (hN : zBig ≤ N) {σ0 : zS} {σ : zS} {x1 : Int32} {x2 : Int32} {Q : (Int32 × zS) → Prop} (hJ : GE σ0 σ) (hQ : ∀ r, GE σ0 r.2 → Q r) : zq (zf_M_doubt N σ x1 x2) Q := by
  unfold zf_M_doubt
  refine zq_ite (fun c1 => ?_) fun c1 => ?_
  ·
    refine zq_bind (q_f_M_doubtAt hN (σ0 := σ0) (((GE.t0 hJ)).pg c1) fun r2 pr2 => ?_)
    refine zq_ite (fun c2 => ?_) fun c2 => ?_
    ·
      refine zq_bind (q_f_M_ofPair (σ0 := σ0) (((GE.t0 hJ)).pg c1) (by (first | with_reducible assumption | omega | grind)) fun r4 => ?_)
      exact hQ _ (GE.t0 hJ)
    ·
      exact hQ _ (GE.t0 hJ)
  ·
    exact hQ _ (GE.t0 hJ)

theorem q_f_M_meet {N : Nat} (hN : zBig ≤ N) {σ0 : zS} {σ : zS} {x1 : Int32} {x2 : Int32} {x3 : Int32} {x4 : Int32} {Q : (Int32 × zS) → Prop} (hJ : GE σ0 σ) (hQ : ∀ r, GE σ0 r.2 → Q r) : zq (zf_M_meet N σ x1 x2 x3 x4) Q := by
  unfold zf_M_meet
  refine zq_ite (fun c1 => ?_) fun c1 => ?_
  ·
    refine zq_bind (q_f_M_isStep (σ0 := σ0) (((GE.t0 hJ)).pg c1) fun r2 pr2 => ?_)
    have qr2 : r2 = 0 ∨ ((0 ≤ x1 ∧ x1 < σ 82 17) ∧ (0 ≤ x2 ∧ x2 < σ 90 x1.toNatClampNeg)) := pr2
    have nt := (hJ.pg c1).nt
    have str2 := (hJ.pg c1).st x1.toNatClampNeg
    refine zq_ite (fun c2 => ?_) fun c2 => ?_
    ·
      exact hQ _ (GE.t0 hJ)
    ·
      refine zq_bind (q_f_M_isStep (σ0 := σ0) (((GE.t0 hJ)).pg c1) fun r4 pr4 => ?_)
      have qr4 : r4 = 0 ∨ ((0 ≤ x3 ∧ x3 < σ 82 17) ∧ (0 ≤ x4 ∧ x4 < σ 90 x3.toNatClampNeg)) := pr4
      have nt := (hJ.pg c1).nt
      have str4 := (hJ.pg c1).st x3.toNatClampNeg
      refine zq_ite (fun c3 => ?_) fun c3 => ?_
      ·
        exact hQ _ (GE.t0 hJ)
      ·
        refine zq_ite (fun c4 => ?_) fun c4 => ?_
        ·
          refine zq_bind (q_f_M_meets hN (σ0 := σ0) (((GE.t0 hJ)).pg c1) (by (first | with_reducible assumption | omega | grind)) fun r7 => ?_)
          refine zq_ite (fun c5 => ?_) fun c5 => ?_
          ·
            exact hQ _ (GE.t0 hJ)
          ·
            exact hQ _ (GE.t0 hJ)
        ·
          exact hQ _ (GE.t0 hJ)
  ·
    exact hQ _ (GE.t0 hJ)

theorem q_b_M_guards_43 {N : Nat} (hN : zBig ≤ N) {σ0 : zS} {σ : zS} {v1 : Int32} {Q : (Int32 × zS) → Prop} (hJ : GP σ0 σ) (hQ : ∀ r, GE σ0 r.2 → Q r) : ∀ (n : Nat) (v2 : Int32) (v3 : Int32), (0 ≤ v3) → zmu v3 < n → zq (zb_M_guards_43 N n σ v1 v2 v3) Q := by
  intro n
  induction n with
  | zero => intro _ _ _ hn; exact absurd hn (Nat.not_lt_zero _)
  | succ n ih =>
    intro v2 v3 hI hn
    rw [zb_M_guards_43]
    have nt := hJ.pg.nt
    refine zq_ite (fun c1 => ?_) fun c1 => ?_
    ·
      exact hQ _ (hJ).ge
    ·
      refine zq_chk (by have := z_div v3 24; have := z_d24 v3; (first | with_reducible assumption | omega | grind)) fun c2 => ?_
      refine zq_ite (fun c3 => ?_) fun c3 => ?_
      ·
        show zq (zb_M_guards_97 (zb_M_guards_43 N n) N σ v1 v2 v3) Q
        unfold zb_M_guards_97
        exact ih v2 (v3 + 1) (by (first | with_reducible assumption | omega | grind)) (by first | exact zmu_up (by assumption) hn | exact zmu_up (b := 2147483647) (by (first | with_reducible assumption | omega | grind)) hn | (first | with_reducible assumption | omega | grind))
      ·
        refine zq_bind (q_f_M_touches (by (first | with_reducible assumption | omega | grind)) fun r7 pr7 => ?_)
        refine zq_ite (fun c4 => ?_) fun c4 => ?_
        ·
          show zq (zb_M_guards_97 (zb_M_guards_43 N n) N σ v1 v2 v3) Q
          unfold zb_M_guards_97
          exact ih v2 (v3 + 1) (by (first | with_reducible assumption | omega | grind)) (by first | exact zmu_up (by assumption) hn | exact zmu_up (b := 2147483647) (by (first | with_reducible assumption | omega | grind)) hn | (first | with_reducible assumption | omega | grind))
        ·
          refine zq_chk (by (first | with_reducible assumption | omega | grind)) fun c5 => ?_
          refine zq_ite (fun c6 => ?_) fun c6 => ?_
          ·
            show zq (zb_M_guards_97 (zb_M_guards_43 N n) N σ v1 v2 v3) Q
            unfold zb_M_guards_97
            exact ih v2 (v3 + 1) (by (first | with_reducible assumption | omega | grind)) (by first | exact zmu_up (by assumption) hn | exact zmu_up (b := 2147483647) (by (first | with_reducible assumption | omega | grind)) hn | (first | with_reducible assumption | omega | grind))
          ·
            refine zq_chk (by (first | with_reducible assumption | omega | grind)) fun c7 => ?_
            show zq (zb_M_guards_97 (zb_M_guards_43 N n) N σ v1 (v2 &&& (σ 96 v3.toNatClampNeg)) v3) Q
            unfold zb_M_guards_97
            exact ih (v2 &&& (σ 96 v3.toNatClampNeg)) (v3 + 1) (by (first | with_reducible assumption | omega | grind)) (by first | exact zmu_up (by assumption) hn | exact zmu_up (b := 2147483647) (by (first | with_reducible assumption | omega | grind)) hn | (first | with_reducible assumption | omega | grind))

theorem q_f_M_guards {N : Nat} (hN : zBig ≤ N) {σ0 : zS} {σ : zS} {x1 : Int32} {Q : (Int32 × zS) → Prop} (hJ : GE σ0 σ) (hQ : ∀ r, GE σ0 r.2 → Q r) : zq (zf_M_guards N σ x1) Q := by
  unfold zf_M_guards
  refine zq_ite (fun c1 => ?_) fun c1 => ?_
  ·
    refine zq_bind (q_f_M_in  fun r2 pr2 => ?_)
    refine zq_ite (fun c2 => ?_) fun c2 => ?_
    ·
      exact q_b_M_guards_43 hN ⟨(GE.t0 hJ), ((GE.t0 hJ)).pg c1⟩ hQ N ((zJ_shl 1 (σ 82 16)) - 1) 0 (by (first | with_reducible assumption | omega | grind)) (by exact zmu_lt hN _)
    ·
      exact hQ _ (GE.t0 hJ)
  ·
    exact hQ _ (GE.t0 hJ)

theorem q_b_M_rings_197 {N : Nat} (hN : zBig ≤ N) {k118 : zS → Int32 → Int32 → Int32 → Int32 → Int32 → Option (Int32 × zS)} {σ0 : zS} {σ : zS} {v1 : Int32} {v3 : Int32} {v4 : Int32} {v5 : Int32} {Q : (Int32 × zS) → Prop} (hJ : GP σ0 σ) (hk118_0 : ∀ (y2 : Int32), zq (k118 σ v1 y2 v3 v4 (v5 + 1)) Q) : ∀ (n : Nat) (v2 : Int32) (v6 : Int32), (v1 ≤ 96 ∧ (0 ≤ v3 ∧ v3 < 96) ∧ (0 ≤ v4 ∧ v4 < 96) ∧ (0 ≤ v5 ∧ v5 < 96) ∧ 0 ≤ v6) → zmu v6 < n → zq (zb_M_rings_197 k118 N n σ v1 v2 v3 v4 v5 v6) Q := by
  intro n
  induction n with
  | zero => intro _ _ _ hn; exact absurd hn (Nat.not_lt_zero _)
  | succ n ih =>
    intro v2 v6 hI hn
    rw [zb_M_rings_197]
    have nt := hJ.pg.nt
    refine zq_ite (fun c1 => ?_) fun c1 => ?_
    ·
      show zq (zb_M_rings_274 k118 N σ v1 v2 v3 v4 v5) Q
      unfold zb_M_rings_274
      exact hk118_0 v2 
    ·
      refine zq_bind (q_f_M_isTaking (σ0 := σ0) (hJ).pg (by have := z_nx24 v3; (first | with_reducible assumption | omega | grind)) fun r26 => ?_)
      refine zq_ite (fun c2 => ?_) fun c2 => ?_
      ·
        show zq (zb_M_rings_268 (zb_M_rings_197 k118 N n) N σ v1 v2 v3 v4 v5 v6) Q
        unfold zb_M_rings_268
        exact ih v2 (v6 + 1) (by have := z_nx24 v3; (first | with_reducible assumption | omega | grind)) (by first | exact zmu_up (by assumption) hn | exact zmu_up (b := 2147483647) (by (first | with_reducible assumption | omega | grind)) hn | (first | with_reducible assumption | omega | grind))
      ·
        refine zq_bind (q_f_M_isHeld (σ0 := σ0) (hJ).pg (by have := z_nx24 v3; (first | with_reducible assumption | omega | grind)) fun r28 => ?_)
        refine zq_ite (fun c3 => ?_) fun c3 => ?_
        ·
          show zq (zb_M_rings_268 (zb_M_rings_197 k118 N n) N σ v1 v2 v3 v4 v5 v6) Q
          unfold zb_M_rings_268
          exact ih v2 (v6 + 1) (by have := z_nx24 v3; (first | with_reducible assumption | omega | grind)) (by first | exact zmu_up (by assumption) hn | exact zmu_up (b := 2147483647) (by (first | with_reducible assumption | omega | grind)) hn | (first | with_reducible assumption | omega | grind))
        ·
          refine zq_bind (q_f_M_isHeld (σ0 := σ0) (hJ).pg (by have := z_nx24 v3; (first | with_reducible assumption | omega | grind)) fun r30 => ?_)
          refine zq_ite (fun c4 => ?_) fun c4 => ?_
          ·
            show zq (zb_M_rings_268 (zb_M_rings_197 k118 N n) N σ v1 v2 v3 v4 v5 v6) Q
            unfold zb_M_rings_268
            exact ih v2 (v6 + 1) (by have := z_nx24 v3; (first | with_reducible assumption | omega | grind)) (by first | exact zmu_up (by assumption) hn | exact zmu_up (b := 2147483647) (by (first | with_reducible assumption | omega | grind)) hn | (first | with_reducible assumption | omega | grind))
          ·
            refine zq_bind (q_f_M_goTogether hN (σ0 := σ0) (hJ).pg (by have := z_nx24 v3; (first | with_reducible assumption | omega | grind)) fun r32 => ?_)
            refine zq_ite (fun c5 => ?_) fun c5 => ?_
            ·
              show zq (zb_M_rings_268 (zb_M_rings_197 k118 N n) N σ v1 v2 v3 v4 v5 v6) Q
              unfold zb_M_rings_268
              exact ih v2 (v6 + 1) (by have := z_nx24 v3; (first | with_reducible assumption | omega | grind)) (by first | exact zmu_up (by assumption) hn | exact zmu_up (b := 2147483647) (by (first | with_reducible assumption | omega | grind)) hn | (first | with_reducible assumption | omega | grind))
            ·
              refine zq_bind (q_f_M_goTogether hN (σ0 := σ0) (hJ).pg (by have := z_nx24 v3; (first | with_reducible assumption | omega | grind)) fun r34 => ?_)
              refine zq_ite (fun c6 => ?_) fun c6 => ?_
              ·
                show zq (zb_M_rings_268 (zb_M_rings_197 k118 N n) N σ v1 v2 v3 v4 v5 v6) Q
                unfold zb_M_rings_268
                exact ih v2 (v6 + 1) (by have := z_nx24 v3; (first | with_reducible assumption | omega | grind)) (by first | exact zmu_up (by assumption) hn | exact zmu_up (b := 2147483647) (by (first | with_reducible assumption | omega | grind)) hn | (first | with_reducible assumption | omega | grind))
              ·
                refine zq_bind (q_f_M_goTogether hN (σ0 := σ0) (hJ).pg (by have := z_nx24 v3; (first | with_reducible assumption | omega | grind)) fun r36 => ?_)
                refine zq_ite (fun c7 => ?_) fun c7 => ?_
                ·
                  show zq (zb_M_rings_268 (zb_M_rings_197 k118 N n) N σ v1 v2 v3 v4 v5 v6) Q
                  unfold zb_M_rings_268
                  exact ih v2 (v6 + 1) (by have := z_nx24 v3; (first | with_reducible assumption | omega | grind)) (by first | exact zmu_up (by assumption) hn | exact zmu_up (b := 2147483647) (by (first | with_reducible assumption | omega | grind)) hn | (first | with_reducible assumption | omega | grind))
                ·
                  show zq (zb_M_rings_268 (zb_M_rings_197 k118 N n) N σ v1 (v2 + 1) v3 v4 v5 v6) Q
                  unfold zb_M_rings_268
                  exact ih (v2 + 1) (v6 + 1) (by have := z_nx24 v3; (first | with_reducible assumption | omega | grind)) (by first | exact zmu_up (by assumption) hn | exact zmu_up (b := 2147483647) (by (first | with_reducible assumption | omega | grind)) hn | (first | with_reducible assumption | omega | grind))

theorem q_b_M_rings_118 {N : Nat} (hN : zBig ≤ N) {k43 : zS → Int32 → Int32 → Int32 → Int32 → Option (Int32 × zS)} {σ0 : zS} {σ : zS} {v1 : Int32} {v3 : Int32} {v4 : Int32} {Q : (Int32 × zS) → Prop} (hJ : GP σ0 σ) (hk43_0 : ∀ (y2 : Int32), zq (k43 σ v1 y2 v3 (v4 + 1)) Q) : ∀ (n : Nat) (v2 : Int32) (v5 : Int32), (v1 ≤ 96 ∧ (0 ≤ v3 ∧ v3 < 96) ∧ (0 ≤ v4 ∧ v4 < 96) ∧ 0 ≤ v5) → zmu v5 < n → zq (zb_M_rings_118 k43 N n σ v1 v2 v3 v4 v5) Q := by
  intro n
  induction n with
  | zero => intro _ _ _ hn; exact absurd hn (Nat.not_lt_zero _)
  | succ n ih =>
    intro v2 v5 hI hn
    rw [zb_M_rings_118]
    have nt := hJ.pg.nt
    refine zq_ite (fun c1 => ?_) fun c1 => ?_
    ·
      show zq (zb_M_rings_280 k43 N σ v1 v2 v3 v4) Q
      unfold zb_M_rings_280
      exact hk43_0 v2 
    ·
      refine zq_bind (q_f_M_isTaking (σ0 := σ0) (hJ).pg (by have := z_nx24 v3; (first | with_reducible assumption | omega | grind)) fun r15 => ?_)
      refine zq_ite (fun c2 => ?_) fun c2 => ?_
      ·
        show zq (zb_M_rings_274 (zb_M_rings_118 k43 N n) N σ v1 v2 v3 v4 v5) Q
        unfold zb_M_rings_274
        exact ih v2 (v5 + 1) (by have := z_nx24 v3; (first | with_reducible assumption | omega | grind)) (by first | exact zmu_up (by assumption) hn | exact zmu_up (b := 2147483647) (by (first | with_reducible assumption | omega | grind)) hn | (first | with_reducible assumption | omega | grind))
      ·
        refine zq_bind (q_f_M_isHeld (σ0 := σ0) (hJ).pg (by have := z_nx24 v3; (first | with_reducible assumption | omega | grind)) fun r17 => ?_)
        refine zq_ite (fun c3 => ?_) fun c3 => ?_
        ·
          show zq (zb_M_rings_274 (zb_M_rings_118 k43 N n) N σ v1 v2 v3 v4 v5) Q
          unfold zb_M_rings_274
          exact ih v2 (v5 + 1) (by have := z_nx24 v3; (first | with_reducible assumption | omega | grind)) (by first | exact zmu_up (by assumption) hn | exact zmu_up (b := 2147483647) (by (first | with_reducible assumption | omega | grind)) hn | (first | with_reducible assumption | omega | grind))
        ·
          refine zq_bind (q_f_M_goTogether hN (σ0 := σ0) (hJ).pg (by have := z_nx24 v3; (first | with_reducible assumption | omega | grind)) fun r19 => ?_)
          refine zq_ite (fun c4 => ?_) fun c4 => ?_
          ·
            show zq (zb_M_rings_274 (zb_M_rings_118 k43 N n) N σ v1 v2 v3 v4 v5) Q
            unfold zb_M_rings_274
            exact ih v2 (v5 + 1) (by have := z_nx24 v3; (first | with_reducible assumption | omega | grind)) (by first | exact zmu_up (by assumption) hn | exact zmu_up (b := 2147483647) (by (first | with_reducible assumption | omega | grind)) hn | (first | with_reducible assumption | omega | grind))
          ·
            refine zq_bind (q_f_M_goTogether hN (σ0 := σ0) (hJ).pg (by have := z_nx24 v3; (first | with_reducible assumption | omega | grind)) fun r21 => ?_)
            refine zq_ite (fun c5 => ?_) fun c5 => ?_
            ·
              refine zq_bind (q_f_M_isHeld (σ0 := σ0) (hJ).pg (by have := z_nx24 v3; (first | with_reducible assumption | omega | grind)) fun r23 => ?_)
              refine zq_ite (fun c6 => ?_) fun c6 => ?_
              ·
                show zq (zb_M_rings_184 (zb_M_rings_118 k43 N n) N σ v1 v3 v4 v5 0 v2) Q
                unfold zb_M_rings_184
                exact q_b_M_rings_197 hN hJ (fun y2 => ih y2 (v5 + 1) (by have := z_nx24 v3; (first | with_reducible assumption | omega | grind)) (by first | exact zmu_up (by assumption) hn | exact zmu_up (b := 2147483647) (by (first | with_reducible assumption | omega | grind)) hn | (first | with_reducible assumption | omega | grind))) N (v2 + 0) (24 * ((v3 / 24) + 1)) (by have := z_div v3 24; have := z_d24 v3; have := z_nx24 v3; (first | with_reducible assumption | omega | grind)) (by exact zmu_lt hN _)
              ·
                show zq (zb_M_rings_184 (zb_M_rings_118 k43 N n) N σ v1 v3 v4 v5 1 v2) Q
                unfold zb_M_rings_184
                exact q_b_M_rings_197 hN hJ (fun y2 => ih y2 (v5 + 1) (by have := z_nx24 v3; (first | with_reducible assumption | omega | grind)) (by first | exact zmu_up (by assumption) hn | exact zmu_up (b := 2147483647) (by (first | with_reducible assumption | omega | grind)) hn | (first | with_reducible assumption | omega | grind))) N (v2 + 1) (24 * ((v3 / 24) + 1)) (by have := z_div v3 24; have := z_d24 v3; have := z_nx24 v3; (first | with_reducible assumption | omega | grind)) (by exact zmu_lt hN _)
            ·
              show zq (zb_M_rings_274 (zb_M_rings_118 k43 N n) N σ v1 v2 v3 v4 v5) Q
              unfold zb_M_rings_274
              exact ih v2 (v5 + 1) (by have := z_nx24 v3; (first | with_reducible assumption | omega | grind)) (by first | exact zmu_up (by assumption) hn | exact zmu_up (b := 2147483647) (by (first | with_reducible assumption | omega | grind)) hn | (first | with_reducible assumption | omega | grind))

theorem q_b_M_rings_43 {N : Nat} (hN : zBig ≤ N) {k27 : zS → Int32 → Int32 → Int32 → Option (Int32 × zS)} {σ0 : zS} {σ : zS} {v1 : Int32} {v3 : Int32} {Q : (Int32 × zS) → Prop} (hJ : GP σ0 σ) (hk27_0 : ∀ (y2 : Int32), zq (k27 σ v1 y2 (v3 + 1)) Q) : ∀ (n : Nat) (v2 : Int32) (v4 : Int32), (v1 ≤ 96 ∧ (0 ≤ v3 ∧ v3 < 96) ∧ 0 ≤ v4) → zmu v4 < n → zq (zb_M_rings_43 k27 N n σ v1 v2 v3 v4) Q := by
  intro n
  induction n with
  | zero => intro _ _ _ hn; exact absurd hn (Nat.not_lt_zero _)
  | succ n ih =>
    intro v2 v4 hI hn
    rw [zb_M_rings_43]
    have nt := hJ.pg.nt
    refine zq_ite (fun c1 => ?_) fun c1 => ?_
    ·
      show zq (zb_M_rings_286 k27 N σ v1 v2 v3) Q
      unfold zb_M_rings_286
      exact hk27_0 v2 
    ·
      refine zq_bind (q_f_M_isTaking (σ0 := σ0) (hJ).pg (by have := z_nx24 v3; (first | with_reducible assumption | omega | grind)) fun r4 => ?_)
      refine zq_ite (fun c2 => ?_) fun c2 => ?_
      ·
        show zq (zb_M_rings_286 k27 N σ v1 v2 v3) Q
        unfold zb_M_rings_286
        exact hk27_0 v2 
      ·
        refine zq_bind (q_f_M_isTaking (σ0 := σ0) (hJ).pg (by have := z_nx24 v3; (first | with_reducible assumption | omega | grind)) fun r6 => ?_)
        refine zq_ite (fun c3 => ?_) fun c3 => ?_
        ·
          show zq (zb_M_rings_280 (zb_M_rings_43 k27 N n) N σ v1 v2 v3 v4) Q
          unfold zb_M_rings_280
          exact ih v2 (v4 + 1) (by have := z_nx24 v3; (first | with_reducible assumption | omega | grind)) (by first | exact zmu_up (by assumption) hn | exact zmu_up (b := 2147483647) (by (first | with_reducible assumption | omega | grind)) hn | (first | with_reducible assumption | omega | grind))
        ·
          refine zq_bind (q_f_M_isHeld (σ0 := σ0) (hJ).pg (by have := z_nx24 v3; (first | with_reducible assumption | omega | grind)) fun r8 => ?_)
          refine zq_ite (fun c4 => ?_) fun c4 => ?_
          ·
            show zq (zb_M_rings_280 (zb_M_rings_43 k27 N n) N σ v1 v2 v3 v4) Q
            unfold zb_M_rings_280
            exact ih v2 (v4 + 1) (by have := z_nx24 v3; (first | with_reducible assumption | omega | grind)) (by first | exact zmu_up (by assumption) hn | exact zmu_up (b := 2147483647) (by (first | with_reducible assumption | omega | grind)) hn | (first | with_reducible assumption | omega | grind))
          ·
            refine zq_bind (q_f_M_goTogether hN (σ0 := σ0) (hJ).pg (by have := z_nx24 v3; (first | with_reducible assumption | omega | grind)) fun r10 => ?_)
            refine zq_ite (fun c5 => ?_) fun c5 => ?_
            ·
              refine zq_bind (q_f_M_isHeld (σ0 := σ0) (hJ).pg (by have := z_nx24 v3; (first | with_reducible assumption | omega | grind)) fun r12 => ?_)
              refine zq_ite (fun c6 => ?_) fun c6 => ?_
              ·
                show zq (zb_M_rings_105 (zb_M_rings_43 k27 N n) N σ v1 v3 v4 0 v2) Q
                unfold zb_M_rings_105
                exact q_b_M_rings_118 hN hJ (fun y2 => ih y2 (v4 + 1) (by have := z_nx24 v3; (first | with_reducible assumption | omega | grind)) (by first | exact zmu_up (by assumption) hn | exact zmu_up (b := 2147483647) (by (first | with_reducible assumption | omega | grind)) hn | (first | with_reducible assumption | omega | grind))) N (v2 + 0) (24 * ((v3 / 24) + 1)) (by have := z_div v3 24; have := z_d24 v3; have := z_nx24 v3; (first | with_reducible assumption | omega | grind)) (by exact zmu_lt hN _)
              ·
                show zq (zb_M_rings_105 (zb_M_rings_43 k27 N n) N σ v1 v3 v4 1 v2) Q
                unfold zb_M_rings_105
                exact q_b_M_rings_118 hN hJ (fun y2 => ih y2 (v4 + 1) (by have := z_nx24 v3; (first | with_reducible assumption | omega | grind)) (by first | exact zmu_up (by assumption) hn | exact zmu_up (b := 2147483647) (by (first | with_reducible assumption | omega | grind)) hn | (first | with_reducible assumption | omega | grind))) N (v2 + 1) (24 * ((v3 / 24) + 1)) (by have := z_div v3 24; have := z_d24 v3; have := z_nx24 v3; (first | with_reducible assumption | omega | grind)) (by exact zmu_lt hN _)
            ·
              show zq (zb_M_rings_280 (zb_M_rings_43 k27 N n) N σ v1 v2 v3 v4) Q
              unfold zb_M_rings_280
              exact ih v2 (v4 + 1) (by have := z_nx24 v3; (first | with_reducible assumption | omega | grind)) (by first | exact zmu_up (by assumption) hn | exact zmu_up (b := 2147483647) (by (first | with_reducible assumption | omega | grind)) hn | (first | with_reducible assumption | omega | grind))

theorem q_b_M_rings_27 {N : Nat} (hN : zBig ≤ N) {σ0 : zS} {σ : zS} {v1 : Int32} {Q : (Int32 × zS) → Prop} (hJ : GP σ0 σ) (hQ : ∀ r, GE σ0 r.2 → Q r) : ∀ (n : Nat) (v2 : Int32) (v3 : Int32), ((v1 ≤ 96) ∧ 0 ≤ v3) → zmu v3 < n → zq (zb_M_rings_27 N n σ v1 v2 v3) Q := by
  intro n
  induction n with
  | zero => intro _ _ _ hn; exact absurd hn (Nat.not_lt_zero _)
  | succ n ih =>
    intro v2 v3 hI hn
    rw [zb_M_rings_27]
    have nt := hJ.pg.nt
    refine zq_ite (fun c1 => ?_) fun c1 => ?_
    ·
      exact hQ _ (hJ).ge
    ·
      exact q_b_M_rings_43 hN hJ (fun y2 => ih y2 (v3 + 1) (by have := z_nx24 v3; (first | with_reducible assumption | omega | grind)) (by first | exact zmu_up (by assumption) hn | exact zmu_up (b := 2147483647) (by (first | with_reducible assumption | omega | grind)) hn | (first | with_reducible assumption | omega | grind))) N v2 (24 * ((v3 / 24) + 1)) (by have := z_div v3 24; have := z_d24 v3; have := z_nx24 v3; (first | with_reducible assumption | omega | grind)) (by exact zmu_lt hN _)

theorem q_f_M_rings {N : Nat} (hN : zBig ≤ N) {σ0 : zS} {σ : zS} {Q : (Int32 × zS) → Prop} (hJ : GE σ0 σ) (hQ : ∀ r, GE σ0 r.2 → Q r) : zq (zf_M_rings N σ) Q := by
  unfold zf_M_rings
  have nt := fun c => (hJ.pg c).nt
  refine zq_ite (fun c1 => ?_) fun c1 => ?_
  ·
    exact q_b_M_rings_27 hN ⟨(GE.t0 hJ), ((GE.t0 hJ)).pg c1⟩ hQ N 0 0 (by (first | with_reducible assumption | omega | grind)) (by exact zmu_lt hN _)
  ·
    exact hQ _ (GE.t0 hJ)
