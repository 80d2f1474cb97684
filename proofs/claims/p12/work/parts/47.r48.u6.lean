-- both answer alike
set_option maxRecDepth 2000
theorem ST.congr {m : Nat} {len : Nat → Nat} {nc : Nat → Nat → Nat} {ρ : zS} {w w' x x' : Nat → Int32} (m4 : m ≤ 4) (h : ST m len nc ρ w x) (ew : ∀ i, i < 5 → w' i = w i) (ex : ∀ i, i < 40 → x' i = x i) : ST m len nc ρ w' x' := by
  obtain ⟨a1, a2, a3, a4, a5, a6, a7⟩ := h
  refine ⟨?_, fun u hu => ?_, fun u hu h4 => ?_, fun u hu => ?_, fun u hu => ?_, fun l hl => (a6 l hl).congr (fun u hu => HN.congr (ex _ (by omega)) (ex _ (by omega))) (ex _ (by omega)) (ex _ (by omega)), ?_⟩
  · rw [ew 0 (by omega)]
    exact a1.of fun f hf => ex f (by omega)
  · rw [ew (u + 1) (by omega)]
    exact (a2 u hu).of (ex _ (by omega)) (ex _ (by omega)) fun i hi => ex _ (by omega)
  · rw [ew (u + 1) (by omega)]
    exact ⟨(a3 u hu h4).1, fun i hi => by rw [ex _ (by omega)]; exact (a3 u hu h4).2 i hi⟩
  · rw [ex (14 + 6 * u) (by omega), ex (15 + 6 * u) (by omega)]; exact a4 u hu
  · unfold SVD
    rw [ex (15 + 6 * u) (by omega), ex (14 + 6 * u) (by omega), ex (19 + 6 * u) (by omega)]
    exact a5 u hu
  · rw [ex 38 (by omega), ex 39 (by omega)]; exact a7
theorem LDD.congr {m : Nat} {ρ σ : zS} {w x x' : Nat → Int32} (m4 : m ≤ 4) (h : LDD m ρ w x σ) (ex : ∀ i, i < 40 → x' i = x i) : LDD m ρ w x' σ := by
  obtain ⟨l1, l2, l3, l4⟩ := h
  refine ⟨l1, l2, fun t ht => ?_, fun l hl => ?_⟩
  · rw [ex (15 + 6 * t) (by omega), ex (14 + 6 * t) (by omega)]; exact l3 t ht
  · rw [ex (6 + l) (by omega)]; exact l4 l hl
theorem PC.m {m : Nat} {len : Nat → Nat} {nc : Nat → Nat → Nat} {ρ μ ν : zS} (h : PC m len nc ρ μ) (e : ∀ q, q = 82 ∨ (90 ≤ q ∧ q ≤ 101) → ν q = μ q) : PC m len nc ρ ν := by
  unfold PC PRO WKV at *
  rw [e 82 (by decide), e 90 (by decide), e 92 (by decide), e 93 (by decide), e 94 (by decide), e 95 (by decide), e 98 (by decide), e 99 (by decide), e 100 (by decide), e 101 (by decide)]
  exact h
theorem PC.f {m : Nat} {len : Nat → Nat} {nc : Nat → Nat → Nat} {ρ μ ν : zS} (h : PC m len nc ρ μ) (e : ∀ q, q ≠ 107 → ν q = μ q) : PC m len nc ρ ν := h.m fun q hq => e q (by omega)
theorem c_move {N t q : Nat} {σ : zS} {w v : Nat → Int32} {s h : Int32} {Q : zS → Prop} (t4 : t < 4) (h37 : σ 37 t = Int32.ofNat q) (q96 : q < 96) (e39 : SAME5 (σ 39) w) (tw : TWB (w (t + 1)) s h v) (k : ∀ σ1 : zS, (∀ p, p ≠ 40 → σ1 p = σ p) → (∀ i, i < 5 → σ1 40 i = w i) → zp (zb_Machine_move_116 N σ1 (Int32.ofNat t) (Int32.ofNat q) 1 (σ 9 q) (if σ 36 t = 3 then -1 else σ 7 q)) Q) : zp (zf_Machine_move N σ (Int32.ofNat t) (-1)) Q := by
  unfold zf_Machine_move zb_Machine_move_38 zb_Machine_move_39
  refine zp_ite (fun q => ?_) fun _ => zp_ite (fun _ => zp_bind (zp_mono (c_slotOf t4) fun r3 e3 => ?_)) fun q => absurd ((zo_lt (k := t) (j := 4) (by omega) (by omega)).mpr t4) q
  · have := (zo_lt (k := t) (j := 0) (by omega) (by omega)).mp q
    omega
  · rw [h37] at e3
    subst e3
    have cq : ∀ p, p ≠ 40 → (zJ_copy σ 39 40 0 0 5) p = σ p := fun p hp => zJ_copy_ne hp
    have c40 : ∀ i, i < 5 → (zJ_copy σ 39 40 0 0 5) 40 i = σ 39 i := fun i hi => by
      unfold zJ_copy va_cpy
      rw [if_pos rfl, show (5 : Int32).toNatClampNeg = 5 from rfl, show (0 : Int32).toNatClampNeg = 0 from rfl, if_pos (by omega), Nat.zero_add, Nat.sub_zero]
    refine zp_ite (fun _ => ?_) fun q => absurd rfl q
    rw [zo_1 (m := t) (by omega), zo_n (m := t + 1) (by omega), zo_n (m := q) (by omega), cq 39 (by decide), cq 9 (by decide), cq 7 (by decide), e39 (t + 1) (by omega), tw.spn]
    generalize (zJ_copy σ 39 40 0 0 5) = C at *
    have fS : ∀ p, p ≠ 40 → (zx_up C 40 (t + 1) (w (t + 1))) p = σ p := fun p hp => by rw [zu_other hp]; exact cq p hp
    have wS : ∀ i, i < 5 → (zx_up C 40 (t + 1) (w (t + 1))) 40 i = w i := fun i hi => by
      rw [zx_up_same]
      by_cases c : i = t + 1
      · rw [c, zu_eq]
      · rw [zu_ne c, c40 i hi]; exact e39 i hi
    have K := k _ fS wS
    refine zp_chk fun _ => zp_chk fun _ => zp_chk fun _ => zp_bind (zp_mono (c_howOf t4) fun r9 e9 => ?_)
    rw [fS 36 (by decide)] at e9
    subst e9
    refine zp_ite (fun n3 => zp_chk fun _ => ?_) fun y => ?_
    · rw [if_neg n3] at K; exact K
    · rw [if_pos (Classical.not_not.mp y)] at K; exact K
theorem c_tail {N t q : Nat} {σ : zS} {next : Int32} {Q : zS → Prop} (t4 : t < 4) (q96 : q < 96) (n : ¬ (σ 36 t = 1 ∧ σ 7 q = 7)) (h : zp (zf_Machine_goTo σ (Int32.ofNat t) next) Q) : zp (zb_Machine_move_261 N σ (Int32.ofNat t) (Int32.ofNat q) 1 next) Q := by
  unfold zb_Machine_move_261 zb_Machine_move_317
  rw [zo_n (m := q) (by omega)]
  refine zp_ite (fun _ => zp_bind (zp_mono (c_howOf t4) fun r26 e26 => ?_)) fun q => absurd (by decide) q
  subst e26
  exact zp_ite (fun _ => zp_bind (zp_mono h fun r hr => zp_some hr)) fun y1 => zp_chk fun _ => zp_ite (fun _ => zp_bind (zp_mono h fun r hr => zp_some hr)) fun y2 => absurd ⟨Classical.not_not.mp y1, Classical.not_not.mp y2⟩ n
theorem p_tailz {N N' m t z' q : Nat} {len : Nat → Nat} {nc : Nat → Nat → Nat} {ρ μ σ : zS} {a : Nat → Nat} (pc : PC m len nc ρ μ) (mid : MID m len nc ρ t a (σ 40) (μ 107)) (l1 : ∀ q, 4 ≤ q → q ≤ 16 → σ q = ρ q) (ht : t < m) (q96 : q < 96) (n : ¬ (σ 36 t = 1 ∧ σ 7 q = 7)) (hz : z' ≤ len t) (ha : z' < len t → EQ4 (nc (24 * t + z')) a) (h15 : μ 107 (15 + 6 * t) = 1) : zp (zb_Machine_move_261 N σ (Int32.ofNat t) (Int32.ofNat q) 1 (Int32.ofNat z')) (fun r => (∀ q, q ≠ 40 → r q = σ q) ∧ zp ((zf_M_goTo N' μ (Int32.ofNat t) (Int32.ofNat z')).bind fun r => some r) (fun s => (∀ q, q ≠ 107 → s q = μ q) ∧ ST m len nc ρ (r 40) (s 107))) := by
  have m4 := pc.1.1
  exact c_tail (by omega) q96 n (zp_mono (p_goTo (N := N') pc mid l1 ht hz ha fun _ => h15) fun r hr => ⟨hr.1, zp_bind (zp_mono hr.2 fun s hs => zp_some hs)⟩)
theorem p_tail {N N' m t z : Nat} {len : Nat → Nat} {nc : Nat → Nat → Nat} {ρ μ σ : zS} {a : Nat → Nat} (pc : PC m len nc ρ μ) (mid : MID m len nc ρ t a (σ 40) (μ 107)) (l1 : ∀ q, 4 ≤ q → q ≤ 16 → σ q = ρ q) (ht : t < m) (zL : z < len t) (n : ¬ (σ 36 t = 1 ∧ σ 7 (24 * t + z) = 7)) (ha : EQ4 (OUTN (ρ 7 (24 * t + z)) (ρ 8 (24 * t + z)) (nc (24 * t + z))) a) (h15 : μ 107 (15 + 6 * t) = 1) : zp (zb_Machine_move_261 N σ (Int32.ofNat t) (Int32.ofNat (24 * t + z)) 1 (ρ 9 (24 * t + z))) (fun r => (∀ q, q ≠ 40 → r q = σ q) ∧ zp (zb_M_doStep_618 N' μ (Int32.ofNat t) (Int32.ofNat (24 * t + z))) (fun s => (∀ q, q ≠ 107 → s q = μ q) ∧ ST m len nc ρ (r 40) (s 107))) := by
  obtain ⟨⟨m4, _, _⟩, p2, _, p4, p5⟩ := pc
  have l24 := (p2 t ht).1
  obtain ⟨k92, ⟨z', zl, e9, e94, k13⟩, _⟩ := p4 t z ht zL
  rw [e9]
  refine zp_mono (p_tailz (N' := N') ⟨⟨m4, by assumption, by assumption⟩, p2, by assumption, p4, p5⟩ mid l1 ht (by omega) n zl (fun lt => ?_) h15) fun r hr => ⟨hr.1, ?_⟩
  · have ne : ρ 7 (24 * t + z) ≠ 13 := fun e => by
      have := k13 (k92.symm.trans e)
      omega
    exact ((p5 t ht).2.2.1 z z' zL lt ne e9).tr ha
  · unfold zb_M_doStep_618
    rw [zo_n (m := 24 * t + z) (by omega), e94]
    exact zp_chk fun _ => hr.2
theorem c_failS {N t q : Nat} {σ : zS} {next s h : Int32} {v : Nat → Int32} {Q : zS → Prop} (t4 : t < 4) (tw : TWB (σ 39 (t + 1)) s h v) (k : zp (zf_Machine_place σ (Int32.ofNat t) s 5) Q) : zp (zb_Machine_move_261 N σ (Int32.ofNat t) (Int32.ofNat q) 0 next) Q := by
  unfold zb_Machine_move_261 zf_Machine_stepOf
  refine zp_ite (fun q => absurd rfl q) fun _ => zp_bind (zp_bind (zp_mono (c_wordOf t4) fun r1 e1 => zp_some ?_))
  rw [e1, tw.stp]
  exact zp_bind (zp_mono k fun r hr => zp_some hr)
def WRK (i j : Nat) (y : Int32) (σ r : zS) : Prop := (∀ p, p ≠ 40 → r p = σ p) ∧ (∀ k, k ≠ i → r 40 k = σ 40 k) ∧ r 40 i = (σ 40 i &&& ((zJ_shl 7 (Int32.ofNat (3 * j))) ^^^ (-1))) ||| (zJ_shl (y &&& 7) (Int32.ofNat (3 * j)))
theorem c_w150 {σ : zS} {y : Int32} {i j : Nat} (hi : i < 5) (hj : j < 6) : zp (zb_Machine_work_150 σ y (Int32.ofNat i) (Int32.ofNat j) 3) (fun r => WRK i j y σ r) := by
  have e3 : 3 * Int32.ofNat j = Int32.ofNat (3 * j) := by
    show Int32.ofNat 3 * Int32.ofNat j = _
    rw [← Int32.ofNat_mul]
  unfold zb_Machine_work_150
  rw [e3, zo_n (m := i) (by omega)]
  refine zp_ite (fun q => ?_) fun _ => zp_ite (fun q => ?_) fun _ => zp_chk fun _ => zp_chk fun _ => zp_some ⟨fun p hp => zu_other hp, fun k hk => by rw [zx_up_same, zu_ne hk], by rw [zx_up_same, zu_eq]⟩
  · have := (zo_lt (k := i) (j := 0) (by omega) (by omega)).mp q
    omega
  · have := (zo_le (k := 5) (j := i) (by omega) (by omega)).mp q
    omega
theorem d_read {N N' m t z : Nat} {len : Nat → Nat} {nc : Nat → Nat → Nat} {ρ μ σ : zS} {w : Nat → Int32} (pc : PC m len nc ρ μ) (st : ST m len nc ρ w (μ 107)) (ld : LDD m ρ w (μ 107) σ) (ht : t < m) (zL : z < len t) (v : μ 107 (15 + 6 * t) = 1) (es : μ 107 (14 + 6 * t) = Int32.ofNat z) {σ1 : zS} (f1 : ∀ p, p ≠ 40 → σ1 p = σ p) (w1 : ∀ i, i < 5 → σ1 40 i = w i) (k0 : μ 92 (24 * t + z) = 0) : zp (zb_Machine_move_116 N σ1 (Int32.ofNat t) (Int32.ofNat (24 * t + z)) 1 (ρ 9 (24 * t + z)) 0) (fun r => (∀ p, p ≠ 40 → r p = σ1 p) ∧ zp (zb_M_doStep_139 N' μ (Int32.ofNat t) (Int32.ofNat (24 * t + z)) (μ 93 (24 * t + z)) 0) (fun s => (∀ p, p ≠ 107 → s p = μ p) ∧ ST m len nc ρ (r 40) (s 107))) := by
  have pc' := pc
  obtain ⟨⟨m4, _, _⟩, p2, _, p4, _⟩ := pc
  have l24 := (p2 t ht).1
  have t4 : t < 4 := by omega
  obtain ⟨k92, _, _, fd, _, ld3, _⟩ := p4 t z ht zL
  obtain ⟨f, f6, e8, e93⟩ := fd (Or.inl k0)
  obtain ⟨j, j3, e13, e98⟩ := ld3 (Or.inl k0)
  have g : ∀ q, 4 ≤ q → q ≤ 16 → σ1 q = ρ q := fun q a b => (f1 q (by omega)).trans (ld.1 q a b)
  have e39 : FWB (σ1 39 0) (μ 107) := by rw [f1 39 (by decide), ld.2.1 0 (by omega)]; exact st.1
  have wk : zp (zf_Machine_work σ1 (Int32.ofNat t) (Int32.ofNat (24 * t + z))) (fun r => WRK (t + 1) j (μ 107 f) σ1 r) := by
    unfold zf_Machine_work zb_Machine_work_109 zb_Machine_work_121 zf_Machine_valueOfField
    rw [zo_n (m := 24 * t + z) (by omega), g 7 (by decide) (by decide), g 8 (by decide) (by decide), g 13 (by decide) (by decide), k92, k0, e8, e13]
    have e3 : 3 * Int32.ofNat f = Int32.ofNat (3 * f) := by
      show Int32.ofNat 3 * Int32.ofNat f = _
      rw [← Int32.ofNat_mul]
    rw [e3, e39.get f6]
    refine zp_chk fun _ => zp_chk fun _ => zp_bind fun r3 _ => zp_chk fun _ => zp_bind fun r5 _ => zp_ite (fun q => absurd rfl q) fun _ => zp_chk fun _ => zp_bind (zp_some (zp_ite (fun _ => zp_ite (fun _ => zp_chk fun _ => ?_) fun q => absurd (by decide) q) fun q => absurd (by decide) q))
    rw [zo_1 (by omega)]
    exact c_w150 (by omega) (by omega)
  unfold zb_Machine_move_116
  refine zp_ite (fun _ => zp_bind (zp_mono wk fun r hr => ?_)) fun q => absurd rfl q
  have mid := (st.mid ht v es (by omega)).of m4 ht (fun i hi => w1 i hi) (fun _ _ _ _ => rfl)
  have y7 := st.1.1 f f6
  have mid2 : MID m len nc ρ t (nc (24 * t + z)) (r 40) ((zx_up μ 107 (16 + 6 * t + j) (μ 107 f)) 107) := mid.loc (y := μ 107 f) m4 ht j3 (fun i hi ne => hr.2.1 i ne) hr.2.2 (by rw [zx_up_same, and7 y7])
  have fr : ∀ p, p ≠ 107 → (zx_up μ 107 (16 + 6 * t + j) (μ 107 f)) p = μ p := fun p hp => zu_other hp
  refine zp_mono (p_tail (N' := N') (pc'.f fr) mid2 (fun q a b => (hr.1 q (by omega)).trans (g q a b)) ht zL ?_ (OUTN.id (by rw [k92, k0]; decide)) (by rw [zx_up_same, zu_ne (by omega)]; exact v)) fun r' h' => ⟨fun p hp => (h'.1 p hp).trans (hr.1 p hp), ?_⟩
  · rw [hr.1 7 (by decide), g 7 (by decide) (by decide), k92, k0]; exact fun w => absurd w.2 (by decide)
  · have ix : (14 + 6 * Int32.ofNat t + 2) + Int32.ofNat j = Int32.ofNat (16 + 6 * t + j) := by
      rw [zo_at t4]
      have b : ∀ t : Fin 4, ∀ j : Fin 3, (Int32.ofNat (14 + 6 * t.val) + 2) + Int32.ofNat j.val = Int32.ofNat (16 + 6 * t.val + j.val) := by decide
      exact b ⟨t, t4⟩ ⟨j, j3⟩
    unfold zb_M_doStep_139 zf_M_at
    rw [zo_n (m := 24 * t + z) (by omega), k0, e93, e98, zo_n (m := f) (by omega)]
    refine zp_chk fun _ => zp_ite (fun _ => zp_bind (zp_some (zp_chk fun _ => zp_chk fun _ => ?_))) fun q => absurd rfl q
    rw [ix, zo_n (m := 16 + 6 * t + j) (by omega)]
    exact zp_chk fun _ => zp_mono h'.2 fun s hs => ⟨fun p hp => (hs.1 p hp).trans (fr p hp), hs.2⟩
theorem d_write {N N' m t z : Nat} {len : Nat → Nat} {nc : Nat → Nat → Nat} {ρ μ σ : zS} {w : Nat → Int32} (pc : PC m len nc ρ μ) (st : ST m len nc ρ w (μ 107)) (ld : LDD m ρ w (μ 107) σ) (ht : t < m) (zL : z < len t) (v : μ 107 (15 + 6 * t) = 1) (es : μ 107 (14 + 6 * t) = Int32.ofNat z) {σ1 : zS} (f1 : ∀ p, p ≠ 40 → σ1 p = σ p) (w1 : ∀ i, i < 5 → σ1 40 i = w i) (k0 : μ 92 (24 * t + z) = 1) : zp (zb_Machine_move_116 N σ1 (Int32.ofNat t) (Int32.ofNat (24 * t + z)) 1 (ρ 9 (24 * t + z)) 1) (fun r => (∀ p, p ≠ 40 → r p = σ1 p) ∧ zp (zb_M_doStep_139 N' μ (Int32.ofNat t) (Int32.ofNat (24 * t + z)) (μ 93 (24 * t + z)) 0) (fun s => (∀ p, p ≠ 107 → s p = μ p) ∧ ST m len nc ρ (r 40) (s 107))) := by
  have pc' := pc
  obtain ⟨⟨m4, _, _⟩, p2, _, p4, _⟩ := pc
  have l24 := (p2 t ht).1
  have t4 : t < 4 := by omega
  obtain ⟨k92, _, _, fd, _, _, wv⟩ := p4 t z ht zL
  obtain ⟨f, f6, e8, e93⟩ := fd (Or.inr k0)
  obtain ⟨e99, e15, vr⟩ := wv.2.1 (k92.trans k0)
  have g : ∀ q, 4 ≤ q → q ≤ 16 → σ1 q = ρ q := fun q a b => (f1 q (by omega)).trans (ld.1 q a b)
  have tw : TWB (σ1 39 (t + 1)) (μ 107 (14 + 6 * t)) (μ 107 (15 + 6 * t)) (fun i => μ 107 (16 + 6 * t + i)) := by rw [f1 39 (by decide), ld.2.1 (t + 1) (by omega)]; exact st.2.1 t ht
  have wk : zp (zf_Machine_work σ1 (Int32.ofNat t) (Int32.ofNat (24 * t + z))) (fun r => WRK 0 f (vl (μ 107) t (ρ 14 (24 * t + z))) σ1 r) := by
    unfold zf_Machine_work zb_Machine_work_109 zb_Machine_work_121
    rw [zo_n (m := 24 * t + z) (by omega), g 7 (by decide) (by decide), g 8 (by decide) (by decide), g 14 (by decide) (by decide), g 15 (by decide) (by decide), k92, k0, e8, e15]
    refine zp_chk fun _ => zp_chk fun _ => zp_bind (zp_mono (c_value t4 tw vr) fun r3 e3 => zp_chk fun _ => zp_bind fun r5 _ => zp_ite (fun _ => zp_chk fun _ => zp_ite (fun _ => zp_chk fun _ => zp_ite (fun _ => zp_ite (fun q => absurd rfl q) fun _ => zp_ite (fun q => absurd rfl q) fun _ => zp_chk fun _ => ?_) fun q => absurd (by decide) q) fun q => absurd (by decide) q) fun q => absurd (by decide) q)
    rw [e3]
    exact c_w150 (i := 0) (by omega) f6
  unfold zb_Machine_move_116
  refine zp_ite (fun q => absurd q (by decide)) fun _ => zp_ite (fun _ => zp_bind (zp_mono wk fun r hr => ?_)) fun q => absurd rfl q
  have mid := (st.mid ht v es (by omega)).of m4 ht (fun i hi => w1 i hi) (fun _ _ _ _ => rfl)
  have y7 := vl_rng tw vr
  have mid2 : MID m len nc ρ t (nc (24 * t + z)) (r 40) ((zx_up μ 107 f (vl (μ 107) t (ρ 14 (24 * t + z)))) 107) := mid.fld (y := vl (μ 107) t (ρ 14 (24 * t + z))) m4 ht f6 (fun i hi ne => hr.2.1 i ne) hr.2.2 (by rw [zx_up_same, and7 y7])
  have fr : ∀ p, p ≠ 107 → (zx_up μ 107 f (vl (μ 107) t (ρ 14 (24 * t + z)))) p = μ p := fun p hp => zu_other hp
  refine zp_mono (p_tail (N' := N') (pc'.f fr) mid2 (fun q a b => (hr.1 q (by omega)).trans (g q a b)) ht zL ?_ (OUTN.id (by rw [k92, k0]; decide)) (by rw [zx_up_same, zu_ne (by omega)]; exact v)) fun r' h' => ⟨fun p hp => (h'.1 p hp).trans (hr.1 p hp), ?_⟩
  · rw [hr.1 7 (by decide), g 7 (by decide) (by decide), k92, k0]; exact fun w => absurd w.2 (by decide)
  · unfold zb_M_doStep_139
    rw [zo_n (m := 24 * t + z) (by omega), k0, e93, zo_n (m := f) (by omega), ← e99]
    refine zp_chk fun _ => zp_ite (fun q => absurd q (by decide)) fun _ => zp_ite (fun _ => zp_chk fun _ => zp_bind (zp_mono (m_value t4 vr) fun r84 e84 => zp_chk fun _ => ?_)) fun q => absurd rfl q
    rw [e84]
    exact zp_mono h'.2 fun s hs => ⟨fun p hp => (hs.1 p hp).trans (fr p hp), hs.2⟩
theorem d_set {N N' m t z : Nat} {len : Nat → Nat} {nc : Nat → Nat → Nat} {ρ μ σ : zS} {w : Nat → Int32} (pc : PC m len nc ρ μ) (st : ST m len nc ρ w (μ 107)) (ld : LDD m ρ w (μ 107) σ) (ht : t < m) (zL : z < len t) (v : μ 107 (15 + 6 * t) = 1) (es : μ 107 (14 + 6 * t) = Int32.ofNat z) {σ1 : zS} (f1 : ∀ p, p ≠ 40 → σ1 p = σ p) (w1 : ∀ i, i < 5 → σ1 40 i = w i) (k0 : μ 92 (24 * t + z) = 2) : zp (zb_Machine_move_116 N σ1 (Int32.ofNat t) (Int32.ofNat (24 * t + z)) 1 (ρ 9 (24 * t + z)) 2) (fun r => (∀ p, p ≠ 40 → r p = σ1 p) ∧ zp (zb_M_doStep_139 N' μ (Int32.ofNat t) (Int32.ofNat (24 * t + z)) (μ 93 (24 * t + z)) 0) (fun s => (∀ p, p ≠ 107 → s p = μ p) ∧ ST m len nc ρ (r 40) (s 107))) := by
  have pc' := pc
  obtain ⟨⟨m4, _, _⟩, p2, _, p4, _⟩ := pc
  have l24 := (p2 t ht).1
  have t4 : t < 4 := by omega
  obtain ⟨k92, _, _, _, _, ld3, wv⟩ := p4 t z ht zL
  obtain ⟨j, j3, e13, e98⟩ := ld3 (Or.inr k0)
  obtain ⟨_, e99, vr, sg⟩ := wv.2.2.1 (k92.trans k0)
  have g : ∀ q, 4 ≤ q → q ≤ 16 → σ1 q = ρ q := fun q a b => (f1 q (by omega)).trans (ld.1 q a b)
  have tw : TWB (σ1 39 (t + 1)) (μ 107 (14 + 6 * t)) (μ 107 (15 + 6 * t)) (fun i => μ 107 (16 + 6 * t + i)) := by rw [f1 39 (by decide), ld.2.1 (t + 1) (by omega)]; exact st.2.1 t ht
  have mid := (st.mid ht v es (by omega)).of m4 ht (fun i hi => w1 i hi) (fun _ _ _ _ => rfl)
  have ix : (14 + 6 * Int32.ofNat t + 2) + Int32.ofNat j = Int32.ofNat (16 + 6 * t + j) := by
    rw [zo_at t4]
    have b : ∀ t : Fin 4, ∀ j : Fin 3, (Int32.ofNat (14 + 6 * t.val) + 2) + Int32.ofNat j.val = Int32.ofNat (16 + 6 * t.val + j.val) := by decide
    exact b ⟨t, t4⟩ ⟨j, j3⟩
  have fin : ∀ (y : Int32) (r : zS), WRK (t + 1) j y σ1 r → zp (zb_Machine_move_261 N r (Int32.ofNat t) (Int32.ofNat (24 * t + z)) 1 (ρ 9 (24 * t + z))) (fun r => (∀ p, p ≠ 40 → r p = σ1 p) ∧ zp (zb_M_doStep_335 N' μ (Int32.ofNat t) (Int32.ofNat (24 * t + z)) y) (fun s => (∀ p, p ≠ 107 → s p = μ p) ∧ ST m len nc ρ (r 40) (s 107))) := by
    intro y r hr
    have mid2 : MID m len nc ρ t (nc (24 * t + z)) (r 40) ((zx_up μ 107 (16 + 6 * t + j) (y &&& 7)) 107) := mid.loc (y := y) m4 ht j3 (fun i hi ne => hr.2.1 i ne) hr.2.2 (by rw [zx_up_same])
    have fr : ∀ p, p ≠ 107 → (zx_up μ 107 (16 + 6 * t + j) (y &&& 7)) p = μ p := fun p hp => zu_other hp
    refine zp_mono (p_tail (N' := N') (pc'.f fr) mid2 (fun q a b => (hr.1 q (by omega)).trans (g q a b)) ht zL ?_ (OUTN.id (by rw [k92, k0]; decide)) (by rw [zx_up_same, zu_ne (by omega)]; exact v)) fun r' h' => ⟨fun p hp => (h'.1 p hp).trans (hr.1 p hp), ?_⟩
    · rw [hr.1 7 (by decide), g 7 (by decide) (by decide), k92, k0]; exact fun w => absurd w.2 (by decide)
    · unfold zb_M_doStep_335 zf_M_at
      rw [zo_n (m := 24 * t + z) (by omega), e98]
      refine zp_bind (zp_some (zp_chk fun _ => ?_))
      rw [ix, zo_n (m := 16 + 6 * t + j) (by omega)]
      exact zp_chk fun _ => zp_mono h'.2 fun s hs => ⟨fun p hp => (hs.1 p hp).trans (fr p hp), hs.2⟩
  have c121 : ∀ y : Int32, zp (zb_Machine_work_109 σ1 (Int32.ofNat t) (Int32.ofNat (24 * t + z)) 2 y) (fun r => WRK (t + 1) j y σ1 r) := fun y => by
    unfold zb_Machine_work_109 zb_Machine_work_121
    rw [zo_n (m := 24 * t + z) (by omega), g 13 (by decide) (by decide), e13, zo_1 (m := t) (by omega)]
    exact zp_ite (fun _ => zp_ite (fun _ => zp_chk fun _ => c_w150 (by omega) (by omega)) fun q => absurd (by decide) q) fun q => absurd (by decide) q
  unfold zb_Machine_move_116
  refine zp_ite (fun q => absurd q (by decide)) fun _ => zp_ite (fun q => absurd q (by decide)) fun _ => zp_ite (fun _ => zp_bind ?_) fun q => absurd rfl q
  unfold zf_Machine_work
  rw [zo_n (m := 24 * t + z) (by omega), g 7 (by decide) (by decide), g 14 (by decide) (by decide), g 15 (by decide) (by decide), g 16 (by decide) (by decide), k92, k0]
  refine zp_chk fun _ => zp_chk fun _ => zp_bind (zp_mono (c_value t4 tw vr) fun r3 e3 => zp_chk fun _ => ?_)
  have ref : ∀ {Q : zS → Prop}, zp (if ¬ (μ 101 (24 * t + z)) = 43 then if ¬ (μ 101 (24 * t + z)) = 45 then zb_M_doStep_335 N' μ (Int32.ofNat t) (Int32.ofNat (24 * t + z)) r3 else (zf_M_valueOf μ (Int32.ofNat t) (μ 100 (24 * t + z))).bind fun r80 => zb_M_doStep_335 N' μ (Int32.ofNat t) (Int32.ofNat (24 * t + z)) (r3 - r80) else (zf_M_valueOf μ (Int32.ofNat t) (μ 100 (24 * t + z))).bind fun r82 => zb_M_doStep_335 N' μ (Int32.ofNat t) (Int32.ofNat (24 * t + z)) (r3 + r82)) Q → zp (zb_M_doStep_139 N' μ (Int32.ofNat t) (Int32.ofNat (24 * t + z)) (μ 93 (24 * t + z)) 0) Q := by
    intro Q h
    unfold zb_M_doStep_139
    rw [zo_n (m := 24 * t + z) (by omega), k0, ← e99]
    refine zp_chk fun _ => zp_ite (fun q => absurd q (by decide)) fun _ => zp_ite (fun q => absurd q (by decide)) fun _ => zp_ite (fun _ => zp_chk fun _ => zp_bind (zp_mono (m_value t4 vr) fun r71 e71 => zp_chk fun _ => ?_)) fun q => absurd rfl q
    rw [e71, ← e3]
    by_cases c : (μ 101 (24 * t + z)) = 43
    · rw [if_neg (fun q => q c)] at h
      exact zp_ite (fun q => absurd c q) fun _ => zp_chk fun _ => h
    · rw [if_pos c] at h
      refine zp_ite (fun _ => zp_chk fun _ => ?_) fun q => absurd q (fun q => q c)
      by_cases d : (μ 101 (24 * t + z)) = 45
      · rw [if_neg (fun q => q d)] at h
        exact zp_ite (fun q => absurd d q) fun _ => zp_chk fun _ => h
      · rw [if_pos d] at h
        exact zp_ite (fun _ => h) fun q => absurd q (fun q => q d)
  rcases sg with ⟨s1, s2⟩ | ⟨s1, s2, s3, vr4⟩
  · rw [s1]
    refine zp_bind fun r5 _ => zp_ite (fun _ => zp_chk fun _ => zp_ite (fun _ => zp_chk fun _ => zp_ite (fun _ => zp_mono (c121 r3) fun r hr => zp_mono (fin r3 r hr) fun r' h' => ⟨h'.1, ref ?_⟩) fun q => absurd (by decide) q) fun q => absurd (by decide) q) fun q => absurd (by decide) q
    rw [s2, if_pos (by decide), if_pos (by decide)]
    exact h'.2
  · refine zp_bind (zp_mono (c_value t4 tw vr4) fun r5 e5 => zp_ite (fun _ => zp_chk fun _ => ?_) fun q => absurd (by decide) q)
    have rv : zp (zf_M_valueOf μ (Int32.ofNat t) (μ 100 (24 * t + z))) (fun u => u = r5) := by
      rw [← s3, e5]
      exact m_value t4 vr4
    rcases s1 with s1 | s1
    · rw [s1]
      refine zp_ite (fun q => absurd rfl q) fun _ => zp_mono (c121 (r3 + r5)) fun r hr => zp_mono (fin (r3 + r5) r hr) fun r' h' => ⟨h'.1, ref ?_⟩
      rw [s2, s1, if_neg (by decide)]
      refine zp_bind (zp_mono rv fun u hu => ?_)
      rw [hu]
      exact h'.2
    · rw [s1]
      refine zp_ite (fun _ => zp_chk fun _ => zp_ite (fun q => absurd rfl q) fun _ => zp_mono (c121 (r3 - r5)) fun r hr => zp_mono (fin (r3 - r5) r hr) fun r' h' => ⟨h'.1, ref ?_⟩) fun q => absurd (by decide) q
      rw [s2, s1, if_pos (by decide), if_neg (by decide)]
      refine zp_bind (zp_mono rv fun u hu => ?_)
      rw [hu]
      exact h'.2
