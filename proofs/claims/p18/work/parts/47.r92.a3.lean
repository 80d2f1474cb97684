-- both answer alike
set_option maxRecDepth 2000
def nmk (nc : Nat → Nat → Nat) (f : Nat) : Nat → Nat → Nat := NCU nc 1000 (fun _ => f)
theorem nmk_lo {nc : Nat → Nat → Nat} {f j : Nat} (h : j < 1000) : nmk nc f j = nc j := NCU.ne (by omega)
theorem nmk_mk {nc : Nat → Nat → Nat} {f : Nat} (h : f ≤ 1) : mkx (nmk nc f) = Int32.ofNat f := by
  unfold mkx nmk
  rw [NCU.at]
  rw [Nat.mod_eq_of_lt (by omega)]
theorem PC.nmk {m f : Nat} {len : Nat → Nat} {nc : Nat → Nat → Nat} {ρ μ : zS} (h : PC m len nc ρ μ) : PC m len (nmk nc f) ρ μ := by
  obtain ⟨h1, h2, h3, h4, h5⟩ := h
  refine ⟨h1, h2, h3, h4, fun t ht => (h5 t ht).of fun s hs => ⟨rfl, rfl, rfl, rfl, rfl, nmk_lo ?_⟩⟩
  have := (h2 t ht).1
  have := h1.1
  omega
theorem ST.nc {m : Nat} {len : Nat → Nat} {nc nc' : Nat → Nat → Nat} {ρ : zS} {w x x' : Nat → Int32} (m4 : m ≤ 4) (l24 : ∀ t, t < m → len t ≤ 24) (h : ST m len nc ρ w x) (en : ∀ j, j < 96 → nc' j = nc j) (ex : ∀ i, i < 40 → i ≠ 38 → x' i = x i) (e38 : x' 38 = mkx nc') : ST m len nc' ρ w x' := by
  obtain ⟨a1, a2, a3, a4, a5, a6, a7⟩ := h
  have hn : ∀ t l, t < m → HN ρ nc' x' t l = HN ρ nc x t l := fun t l ht => by
    have L := l24 t ht
    rw [HN.congr (nc := nc') (x := x) (x' := x') (ex (14 + 6 * t) (by omega) (by omega)) (ex (15 + 6 * t) (by omega) (by omega))]
    rcases a4 t ht with v | ⟨v, z, zS, es⟩ | ⟨v, z, l', zS, es, _⟩ | v
    · rw [HN.no (nc := nc') (by rw [v.1]; decide), HN.no (nc := nc) (by rw [v.1]; decide)]
    · rcases v with v | v
      · rw [HN.run (nc := nc') v es (by omega), HN.run (nc := nc) v es (by omega), en _ (by omega)]
      · rw [HN.no (nc := nc') (by rw [v]; decide), HN.no (nc := nc) (by rw [v]; decide)]
    · rw [HN.wait (nc := nc') v es (by omega), HN.wait (nc := nc) v es (by omega), en _ (by omega)]
    · rw [HN.no (nc := nc') (by rw [v.1]; decide), HN.no (nc := nc) (by rw [v.1]; decide)]
  refine ⟨a1.of fun f hf => ex f (by omega) (by omega), fun t ht => (a2 t ht).of (ex _ (by omega) (by omega)) (ex _ (by omega) (by omega)) fun i hi => ex _ (by omega) (by omega), fun t h1 h2 => ⟨(a3 t h1 h2).1, fun i hi => by rw [ex _ (by omega) (by omega)]; exact (a3 t h1 h2).2 i hi⟩, fun t ht => ?_, fun t ht => ?_, fun l hl => (a6 l hl).congr (fun t ht => hn t l ht) (ex _ (by omega) (by omega)) (ex _ (by omega) (by omega)), e38, by rw [ex 39 (by omega) (by omega)]; exact a7.2⟩
  · have L := l24 t ht
    rw [ex (14 + 6 * t) (by omega) (by omega), ex (15 + 6 * t) (by omega) (by omega)]
    rcases a4 t ht with v | v | ⟨v, z, l, zS, es, k7, l4, e8, pos⟩ | v
    · exact Or.inl v
    · exact Or.inr (Or.inl v)
    · exact Or.inr (Or.inr (Or.inl ⟨v, z, l, zS, es, k7, l4, e8, by rw [en _ (by omega)]; exact pos⟩))
    · exact Or.inr (Or.inr (Or.inr v))
  · unfold SVD
    rw [ex (15 + 6 * t) (by omega) (by omega), ex (14 + 6 * t) (by omega) (by omega), ex (19 + 6 * t) (by omega) (by omega)]
    exact ⟨fun k z l z24 es l4 e8 => by rw [en _ (by omega)]; exact (a5 t ht).1 k z l z24 es l4 e8, (a5 t ht).2⟩
def STF (o m : Nat) (len : Nat → Nat) (nc : Nat → Nat → Nat) (ρ : zS) (w x : Nat → Int32) : Prop := ∃ f, f ≤ 1 ∧ ST m len (nmk nc f) ρ (wm w) x ∧ (∀ t, t < 4 → (gb (w (t + 1)) 17 = true ↔ (t = o ∧ f = 1))) ∧ ((x (15 + 6 * o) = 4 ∨ x (15 + 6 * o) = 5) → f = 0)
theorem f01 {f g : Nat} (hf : f ≤ 1) (hg : g ≤ 1) (h : f = 1 ↔ g = 1) : f = g := by
  by_cases c : f = 1
  · have := h.mp c
    omega
  · by_cases d : g = 1
    · exact absurd (h.mpr d) c
    · omega
theorem STF.fwd {o m : Nat} {len : Nat → Nat} {nc : Nat → Nat → Nat} {ρ : zS} {w w' x x' : Nat → Int32} (o4 : o < 4) (m4 : m ≤ 4) (l24 : ∀ t, t < m → len t ≤ 24) (h : STF o m len nc ρ w x) (h' : STF o m len nc ρ w' x') (e : SAME5 w w') : SAME40 x x' := by
  obtain ⟨f, f1, s, fl, _⟩ := h
  obtain ⟨g, g1, s', gl, _⟩ := h'
  have a := fl o o4
  have b := gl o o4
  rw [e (o + 1) (by omega)] at a
  have fg : f = g := f01 f1 g1 ⟨fun k => (b.mp (a.mpr ⟨rfl, k⟩)).2, fun k => (a.mp (b.mpr ⟨rfl, k⟩)).2⟩
  subst fg
  exact ST.fwd m4 l24 s s' e.wm
theorem STF.bwd {o m : Nat} {len : Nat → Nat} {nc : Nat → Nat → Nat} {ρ : zS} {w w' x x' : Nat → Int32} (m4 : m ≤ 4) (h : STF o m len nc ρ w x) (h' : STF o m len nc ρ w' x') (e : SAME40 x x') : SAME5 w w' := by
  obtain ⟨f, f1, s, fl, _⟩ := h
  obtain ⟨g, g1, s', gl, _⟩ := h'
  have x38 : x 38 = Int32.ofNat f := s.2.2.2.2.2.2.1.trans (nmk_mk f1)
  have y38 : x' 38 = Int32.ofNat g := s'.2.2.2.2.2.2.1.trans (nmk_mk g1)
  have fg : f = g := zo_inj (by omega) (by omega) (x38.symm.trans ((e 38 (by omega)).trans y38))
  subst fg
  have sw := ST.bwd m4 s s' e
  intro i hi
  cases i with
  | zero =>
    have k := sw 0 hi
    rw [wm_0, wm_0] at k
    exact k
  | succ t =>
    refine gb_ext fun i hi' => ?_
    by_cases c : i = 17
    · rw [c]
      exact bool_iff ((fl t (by omega)).trans (gl t (by omega)).symm)
    · have k := sw (t + 1) hi
      rw [wm_mk (w := w) (t := t) i hi' c, wm_mk (w := w') (t := t) i hi' c, k]
theorem STF.byte {o m : Nat} {len : Nat → Nat} {nc : Nat → Nat → Nat} {ρ μ : zS} {w x : Nat → Int32} (pc : PC m len nc ρ μ) (h : STF o m len nc ρ w x) : ∀ i, i < 40 → 0 ≤ x i ∧ x i ≤ 127 := by
  obtain ⟨f, f1, s, _⟩ := h
  exact s.byte pc.nmk
theorem STF.congr {o m : Nat} {len : Nat → Nat} {nc : Nat → Nat → Nat} {ρ : zS} {w w' x x' : Nat → Int32} (h : STF o m len nc ρ w x) (om : o < m) (m4 : m ≤ 4) (ew : SAME5 w' w) (ex : ∀ i, i < 40 → x' i = x i) : STF o m len nc ρ w' x' := by
  obtain ⟨f, f1, s, fl, gn⟩ := h
  refine ⟨f, f1, s.congr m4 ew.wm ex, fun t ht => ?_, fun k => gn ?_⟩
  · rw [ew (t + 1) (by omega)]
    exact fl t ht
  · rw [ex (15 + 6 * o) (by omega)] at k
    exact k
def m39 (σ : zS) : zS := fun q => if q = 39 then wm (σ 39) else σ q
theorem m39_ne {σ : zS} {q : Nat} (h : q ≠ 39) : m39 σ q = σ q := if_neg h
theorem m39_at {σ : zS} : m39 σ 39 = wm (σ 39) := if_pos rfl
theorem LDD.msk {m : Nat} {ρ σ : zS} {w x : Nat → Int32} (h : LDD m ρ w x σ) : LDD m ρ (wm w) x (m39 σ) := ⟨fun q a b => by rw [m39_ne (by omega)]; exact h.1 q a b, by rw [m39_at]; exact h.2.1.wm, by rw [m39_ne (by decide), m39_ne (by decide)]; exact h.2.2.1, by rw [m39_ne (by decide)]; exact h.2.2.2⟩
theorem can_m39 {σ : zS} {x : Int32} : zf_Machine_canMove (m39 σ) x = zf_Machine_canMove σ x := by
  unfold zf_Machine_canMove zf_Machine_howOf zf_Machine_slotOf zf_Machine_ownerOf zb_Machine_canMove_134 zb_Machine_canMove_108
  rw [m39_ne (q := 36) (by decide), m39_ne (q := 37) (by decide), m39_ne (q := 38) (by decide), m39_ne (q := 7) (by decide), m39_ne (q := 8) (by decide)]
theorem p_canF {o m t : Nat} {len : Nat → Nat} {nc : Nat → Nat → Nat} {ρ μ σ : zS} {w x : Nat → Int32} (pc : PC m len nc ρ μ) (st : STF o m len nc ρ w x) (ld : LDD m ρ w x σ) (ex : ∀ i, i < 40 → μ 107 i = x i) (ht : t < m) : zp (zf_Machine_canMove σ (Int32.ofNat t)) (fun a => zp (zf_M_canStep μ (Int32.ofNat t)) (fun b => a = b ∧ (a = 0 ∨ a = 1) ∧ (a = 1 → CANX ρ x t))) := by
  obtain ⟨f, f1, s, _⟩ := st
  have h := p_can (pc.nmk (f := f)) s ld.msk ex ht
  rw [can_m39] at h
  exact h
theorem can_at {m t : Nat} {len : Nat → Nat} {nc : Nat → Nat → Nat} {ρ : zS} {w x : Nat → Int32} (st : ST m len nc ρ w x) (ht : t < m) (cx : CANX ρ x t) : (x (15 + 6 * t) = 1 ∨ x (15 + 6 * t) = 3) ∧ ∃ z, z < len t ∧ x (14 + 6 * t) = Int32.ofNat z := by
  rcases cx with ⟨v, _⟩ | ⟨v, _⟩
  · refine ⟨Or.inl v, ?_⟩
    rcases st.2.2.2.1 t ht with k | ⟨_, z, k⟩ | k | k
    · rw [k.1] at v; exact absurd v (by decide)
    · exact ⟨z, k⟩
    · rcases k.1 with k | k <;> rw [k] at v <;> exact absurd v (by decide)
    · rw [k.1] at v; exact absurd v (by decide)
  · refine ⟨Or.inr v, ?_⟩
    rcases st.2.2.2.1 t ht with k | k | ⟨_, z, l, k⟩ | k
    · rw [k.1] at v; exact absurd v (by decide)
    · rcases k.1 with k | k <;> rw [k] at v <;> exact absurd v (by decide)
    · exact ⟨z, k.1, k.2.1⟩
    · rw [k.1] at v; exact absurd v (by decide)
def SPO (o m : Nat) (len : Nat → Nat) (ρ : zS) (sp : Int32) : Prop := o < m ∧ ¬ sp = -1 ∧ ∀ t z, t < m → z < len t → ρ 12 (24 * t + z) = sp → t = o
def NMK (o t : Nat) (ρ : zS) (sp : Int32) (x x' : Nat → Int32) (y : Int32) : Prop := ((x' (15 + 6 * o) = 4 ∨ x' (15 + 6 * o) = 5) → y = 0) ∧ (¬ (x' (15 + 6 * o) = 4 ∨ x' (15 + 6 * o) = 5) → (t ≠ o → y = x 38) ∧ (t = o → ∀ z, z < 24 → x (14 + 6 * t) = Int32.ofNat z → (ρ 12 (24 * t + z) = sp → y = 1) ∧ (¬ ρ 12 (24 * t + z) = sp → y = 0)))
theorem gb_65536 : gb 65536 17 = false := by decide +kernel
theorem p_moveF {N N' o m t : Nat} {len : Nat → Nat} {nc : Nat → Nat → Nat} {ρ μ σ : zS} {w : Nat → Int32} {sp : Int32} (pc : PC m len nc ρ μ) (so : SPO o m len ρ sp) (st : STF o m len nc ρ w (μ 107)) (ld : LDD m ρ w (μ 107) σ) (ht : t < m) (cx : CANX ρ (μ 107) t) : zp (zf_Machine_move N σ (Int32.ofNat t) sp) (fun r => zp (zf_M_doStep N' μ (Int32.ofNat t)) (fun s => (∀ p, p ≠ 107 → s p = μ p) ∧ s 107 38 = μ 107 38 ∧ ∀ y x', NMK o t ρ sp (μ 107) (s 107) y → (∀ i, i < 40 → i ≠ 38 → x' i = s 107 i) → x' 38 = y → STF o m len nc ρ (r 40) x')) := by
  obtain ⟨om, nsp, own⟩ := so
  obtain ⟨f, f1, s0, fl, gn⟩ := st
  obtain ⟨⟨m4, _, _⟩, p2, _⟩ := id pc
  have l24 : ∀ t, t < m → len t ≤ 24 := fun t ht => (p2 t ht).1
  obtain ⟨h13, z, zL, es⟩ := can_at s0 ht cx
  have z24 : z < 24 := Nat.lt_of_lt_of_le zL (l24 t ht)
  obtain ⟨h36, h37⟩ := ld.2.2.1 t ht
  have R0 : (∀ q, q ≠ 39 → q ≠ 40 → m39 σ q = σ q) ∧ m39 σ 39 0 = σ 39 0 ∧ ∀ u, u < 4 → MK (σ 39 (u + 1)) (m39 σ 39 (u + 1)) := ⟨fun q a _ => m39_ne a, by rw [m39_at, wm_0], fun u _ => by rw [m39_at]; exact wm_mk⟩
  have rm := r_move (N := N) (σ := σ) (σ' := m39 σ) (sp := sp) pc ht zL ld.1 (h37 z z24 es (by rw [(p2 t ht).2.1]; exact (zo_lt (by omega) (by have := l24 t ht; omega)).mpr zL)) (by rw [h36]; exact h13) nsp R0
  intro r er
  obtain ⟨r', er', RLr, fr, pT, pF, oth⟩ := rm r er
  have pm := p_move (N := N) (N' := N') (pc.nmk (f := f)) s0 ld.msk ht cx r' er'
  refine zp_mono pm.2 fun s hs => ⟨hs.1, ?_, fun y x' hy ex ey => ?_⟩
  · exact hs.2.2.2.2.2.2.2.1.trans s0.2.2.2.2.2.2.1.symm
  have st' := hs.2
  have b17 : ∀ u, u < 4 → gb (r' 40 (u + 1)) 17 = false := fun u hu => by
    by_cases c : u < m
    · exact (st'.2.1 u c).2.2.2.2 17 (by omega)
    · rw [(st'.2.2.1 u (by omega) hu).1]
      exact gb_65536
  have same : SAME5 (wm (r 40)) (r' 40) := fun i hi => by
    cases i with
    | zero => rw [wm_0]; exact RLr.2.1.2.symm
    | succ u =>
      refine gb_ext fun i hi' => ?_
      by_cases c : i = 17
      · rw [c, b17 u (by omega), wm_s]
        exact clr17
      · rw [← wm_mk (w := r 40) (t := u) i hi' c]
        exact (RLr.2.2 u (by omega)).2 i hi' c
  have st2 : ST m len (nmk nc f) ρ (wm (r 40)) (s 107) := st'.congr m4 same (fun _ _ => rfl)
  have how : ∀ u, u < m → how17 (r 40 (u + 1)) = s 107 (15 + 6 * u) := fun u hu => (RLr.2.2 u (by omega)).2.how.trans (st'.2.1 u hu).how
  have how0 : how17 (w (o + 1)) = μ 107 (15 + 6 * o) := (wm_mk (w := w) (t := o)).how.trans (s0.2.1 o om).how
  have x38 : μ 107 38 = Int32.ofNat f := s0.2.2.2.2.2.2.1.trans (nmk_mk f1)
  have ye : ∃ f', f' ≤ 1 ∧ y = Int32.ofNat f' := by
    by_cases c : s 107 (15 + 6 * o) = 4 ∨ s 107 (15 + 6 * o) = 5
    · exact ⟨0, by omega, hy.1 c⟩
    · by_cases d : t = o
      · by_cases e : ρ 12 (24 * t + z) = sp
        · exact ⟨1, by omega, (((hy.2 c).2 d) z z24 es).1 e⟩
        · exact ⟨0, by omega, (((hy.2 c).2 d) z z24 es).2 e⟩
      · exact ⟨f, f1, ((hy.2 c).1 d).trans x38⟩
  obtain ⟨f', f1', ye⟩ := ye
  have fz : ∀ {k : Nat}, k ≤ 1 → y = Int32.ofNat k → f' = k := fun {k} hk e => zo_inj (by omega) (by omega) (ye.symm.trans e)
  refine ⟨f', f1', st2.nc m4 l24 (fun j hj => by rw [nmk_lo (by omega), nmk_lo (by omega)]) ex (by rw [nmk_mk f1', ey, ye]), fun u hu => ?_, fun k => ?_⟩
  · by_cases ut : u = t
    · subst ut
      by_cases uo : u = o
      · by_cases e : ρ 12 (24 * u + z) = sp
        · have p := pT e
          unfold P18 at p
          rw [how u ht] at p
          rw [p]
          by_cases c : s 107 (15 + 6 * u) = 4 ∨ s 107 (15 + 6 * u) = 5
          · rw [if_pos c]
            have z0 : f' = 0 := fz (by omega) (hy.1 (by rw [← uo]; exact c))
            exact ⟨fun k => absurd k (by decide), fun k => absurd k.2 (by omega)⟩
          · rw [if_neg c]
            have z1 : f' = 1 := fz (by omega) ((((hy.2 (by rw [← uo]; exact c)).2 uo) z z24 es).1 e)
            exact ⟨fun _ => ⟨uo, z1⟩, fun _ => rfl⟩
        · have p := pF e
          unfold P18 at p
          rw [ite_self] at p
          rw [p]
          have z0 : f' = 0 := by
            by_cases c : s 107 (15 + 6 * o) = 4 ∨ s 107 (15 + 6 * o) = 5
            · exact fz (by omega) (hy.1 c)
            · exact fz (by omega) ((((hy.2 c).2 uo) z z24 es).2 e)
          exact ⟨fun k => absurd k (by decide), fun k => absurd k.2 (by omega)⟩
      · have p := pF fun e => uo (own u z ht zL e)
        unfold P18 at p
        rw [ite_self] at p
        rw [p]
        exact ⟨fun k => absurd k (by decide), fun k => absurd k.1 uo⟩
    · have w39 : σ 39 (u + 1) = w (u + 1) := ld.2.1 (u + 1) (by omega)
      have k := oth u hu ut
      rw [w39] at k
      by_cases uo : u = o
      · subst uo
        have fu := fl u hu
        rcases k with ⟨k1, k2⟩ | k
        · rw [k1, fu]
          rw [how u om, how0] at k2
          by_cases c : s 107 (15 + 6 * u) = 4 ∨ s 107 (15 + 6 * u) = 5
          · have z0 : f' = 0 := fz (by omega) (hy.1 c)
            have f0 : f = 0 := gn (by rw [← k2]; exact c)
            rw [z0, f0]
          · have z1 : f' = f := fz f1 (((hy.2 c).1 fun e => ut e.symm).trans x38)
            rw [z1]
        · unfold P17 at k
          rw [how u om] at k
          rw [k]
          by_cases c : s 107 (15 + 6 * u) = 4 ∨ s 107 (15 + 6 * u) = 5
          · rw [if_pos c]
            have z0 : f' = 0 := fz (by omega) (hy.1 c)
            exact ⟨fun k => absurd k (by decide), fun k => absurd k.2 (by omega)⟩
          · rw [if_neg c, fu]
            have z1 : f' = f := fz f1 (((hy.2 c).1 fun e => ut e.symm).trans x38)
            rw [z1]
      · have w0 : gb (w (u + 1)) 17 = false := by
          cases h : gb (w (u + 1)) 17 with
          | false => rfl
          | true => exact absurd ((fl u hu).mp h).1 uo
        have g0 : gb (r 40 (u + 1)) 17 = false := by
          rcases k with ⟨k1, _⟩ | k
          · rw [k1, w0]
          · unfold P17 at k
            rw [k, w0, ite_self]
        rw [g0]
        exact ⟨fun k => absurd k (by decide), fun k => absurd k.1 uo⟩
  · rw [ex (15 + 6 * o) (by omega) (by omega)] at k
    exact fz (by omega) (hy.1 k)
def ALC (o : Nat) (len : Nat → Nat) (ρ : zS) (sp : Int32) (x : Nat → Int32) : Prop := x 38 = 1 ∧ x (15 + 6 * o) = 1 ∧ ∃ z, z < len o ∧ x (14 + 6 * o) = Int32.ofNat z ∧ ρ 12 (24 * o + z) = sp
theorem u17 {a : Int32} : ((zJ_ushr a 17) &&& 1) = 0 ↔ gb a 17 = false := by
  have key : ∀ i, i < 32 → gb ((zJ_ushr a 17) &&& 1) i = (gb a (17 + i) && decide (i = 0)) := fun i hi => by
    rw [gb_and, show (17 : Int32) = Int32.ofNat 17 from rfl, gb_ushr (by omega), show gb 1 i = decide (i = 0) from gb_one ⟨i, hi⟩]
  constructor
  · intro h
    have k := key 0 (by omega)
    rw [h, gb_zero, decide_eq_true rfl, Bool.and_true] at k
    exact k.symm
  · intro h
    refine gb_ext fun i hi => ?_
    rw [key i hi, gb_zero]
    by_cases c : i = 0
    · rw [c, Nat.add_zero, h, Bool.false_and]
    · rw [decide_eq_false c, Bool.and_false]
theorem p_aloneF {N o m : Nat} {len : Nat → Nat} {nc : Nat → Nat → Nat} {ρ μ σ : zS} {w x : Nat → Int32} {sp : Int32} (pc : PC m len nc ρ μ) (so : SPO o m len ρ sp) (st : STF o m len nc ρ w x) (ld : LDD m ρ w x σ) : zp (zf_Machine_aloneIn N σ sp) (fun a => (a = Int32.ofNat o ∧ ALC o len ρ sp x ∧ ∃ c, zf_Machine_canMove σ (Int32.ofNat o) = some c ∧ ¬ c = 0) ∨ (a = -1 ∧ (¬ ALC o len ρ sp x ∨ zf_Machine_canMove σ (Int32.ofNat o) = some 0))) := by
  obtain ⟨om, nsp, own⟩ := so
  obtain ⟨f, f1, s0, fl, gn⟩ := st
  obtain ⟨⟨m4, e42, _⟩, p2, _⟩ := pc
  have x38 : x 38 = Int32.ofNat f := s0.2.2.2.2.2.2.1.trans (nmk_mk f1)
  have sm : σ 4 2 = Int32.ofNat m := by rw [ld.1 4 (by decide) (by decide)]; exact e42
  have go : ∀ (n t : Nat), t ≤ m → (o < t → ¬ ALC o len ρ sp x ∨ zf_Machine_canMove σ (Int32.ofNat o) = some 0) → zp (zb_Machine_aloneIn_2 N n σ sp (Int32.ofNat t)) (fun a => (a = Int32.ofNat o ∧ ALC o len ρ sp x ∧ ∃ c, zf_Machine_canMove σ (Int32.ofNat o) = some c ∧ ¬ c = 0) ∨ (a = -1 ∧ (¬ ALC o len ρ sp x ∨ zf_Machine_canMove σ (Int32.ofNat o) = some 0))) := by
    intro n
    induction n with
    | zero => intro _ _ _; exact zp_none
    | succ n ih =>
      intro t tm h
      rw [zb_Machine_aloneIn_2, sm]
      unfold zb_Machine_aloneIn_61 zb_Machine_aloneIn_62 zb_Machine_aloneIn_77
      refine zp_ite (fun q => zp_some (Or.inr ⟨rfl, h ?_⟩)) fun q => zp_ite (fun e => absurd e nsp) fun _ => ?_
      · have := (zo_le (k := m) (j := t) (by omega) (by omega)).mp q
        omega
      have lt : t < m := by
        by_cases c : t < m
        · exact c
        · exact absurd ((zo_le (k := m) (j := t) (by omega) (by omega)).mpr (by omega)) q
      have t4 : t < 4 := by omega
      rw [zo_1 (m := t) (by omega)]
      have no : (t = o → ¬ ALC o len ρ sp x ∨ zf_Machine_canMove σ (Int32.ofNat o) = some 0) → zp (zb_Machine_aloneIn_2 N n σ sp (Int32.ofNat (t + 1))) (fun a => (a = Int32.ofNat o ∧ ALC o len ρ sp x ∧ ∃ c, zf_Machine_canMove σ (Int32.ofNat o) = some c ∧ ¬ c = 0) ∨ (a = -1 ∧ (¬ ALC o len ρ sp x ∨ zf_Machine_canMove σ (Int32.ofNat o) = some 0))) := fun k => ih (t + 1) (by omega) fun ot => by
        by_cases c : t = o
        · exact k c
        · exact h (by omega)
      refine zp_bind (zp_mono (c_wordOf t4) fun r3 e3 => ?_)
      rw [ld.2.1 (t + 1) (by omega)] at e3
      subst e3
      refine zp_ite (fun z => zp_ite (fun _ => no fun c => Or.inl fun a => ?_) fun q => absurd rfl q) fun nz => ?_
      · have g := u17.mp z
        have k := (fl t t4).mpr ⟨c, zo_inj (by omega) (by omega) (x38.symm.trans a.1)⟩
        rw [g] at k
        exact absurd k (by decide)
      · have g : gb (w (t + 1)) 17 = true := by
          cases hh : gb (w (t + 1)) 17 with
          | true => rfl
          | false => exact absurd (u17.mpr hh) nz
        obtain ⟨to, f1'⟩ := (fl t t4).mp g
        subst to
        obtain ⟨h36, h37⟩ := ld.2.2.1 t lt
        refine zp_bind (zp_mono (c_howOf t4) fun r8 e8 => ?_)
        rw [h36] at e8
        subst e8
        refine zp_ite (fun n1 => zp_ite (fun _ => no fun _ => Or.inl fun a => n1 a.2.1) fun q => absurd rfl q) fun y1 => ?_
        have h1 := Classical.not_not.mp y1
        obtain ⟨z, zL, es⟩ : ∃ z, z < len t ∧ x (14 + 6 * t) = Int32.ofNat z := by
          rcases s0.2.2.2.1 t lt with k | ⟨_, z, k⟩ | k | k
          · rw [k.1] at h1; exact absurd h1 (by decide)
          · exact ⟨z, k⟩
          · rcases k.1 with k | k <;> rw [k] at h1 <;> exact absurd h1 (by decide)
          · rw [k.1] at h1; exact absurd h1 (by decide)
        obtain ⟨l24, e5, _⟩ := p2 t lt
        refine zp_bind (zp_mono (c_slotOf t4) fun r10 e10 => ?_)
        rw [h37 z (by omega) es (by rw [e5]; exact (zo_lt (by omega) (by omega)).mpr zL)] at e10
        subst e10
        rw [zo_n (m := 24 * t + z) (by omega), ld.1 12 (by decide) (by decide)]
        refine zp_chk fun _ => zp_ite (fun n12 => zp_ite (fun _ => no fun _ => Or.inl fun a => ?_) fun q => absurd rfl q) fun y12 => zp_ite (fun q => absurd q (by decide)) fun _ => zp_bind fun r6 e6 => zp_ite (fun z0 => no fun _ => Or.inr ?_) fun nz0 => zp_some (Or.inl ⟨rfl, ?_, r6, e6, nz0⟩)
        · obtain ⟨_, _, z', zL', es', e12⟩ := a
          have := zo_inj (k := z') (j := z) (by omega) (by omega) (es'.symm.trans es)
          rw [this] at e12
          exact n12 e12
        · rw [e6, z0]
        · exact ⟨x38.trans (congrArg Int32.ofNat f1'), h1, z, zL, es, Classical.not_not.mp y12⟩
  unfold zf_Machine_aloneIn
  exact go N 0 (Nat.zero_le _) fun q => absurd q (Nat.not_lt_zero _)
