-- both answer alike
set_option maxRecDepth 2000
theorem nmk_z {nc : Nat → Nat → Nat} : nmk nc 0 1000 0 = 0 := by
  unfold nmk
  rw [NCU.at]
theorem STA.nmk {m : Nat} {len : Nat → Nat} {nc : Nat → Nat → Nat} {ρ : zS} (h : STA m len nc ρ) : STA m len (nmk nc 0) ρ := ⟨h.1, h.2.1, nmk_z⟩
theorem ANQ.one {P Q : Prop} {a b : Int32} (h : ANQ P a) (g : ANQ Q b) (e : P ↔ Q) : a = b := by
  rcases h with ⟨x, n⟩ | ⟨x, y⟩
  · rcases g with ⟨z, _⟩ | ⟨_, w⟩
    · rw [x, z]
    · exact absurd (e.mpr w) n
  · rcases g with ⟨_, w⟩ | ⟨z, _⟩
    · exact absurd (e.mp y) w
    · rw [x, z]
def MNR (m c0 nM : Nat) (ν : zS) : Prop := c0 ≤ 6 ∧ nM ≤ 4000 ∧ STL (ν 82 60) (ν 115) (lst (pOut m c0 (ν 44) (row40 ν)) 0 nM) ∧ COD m (lst (pOut m c0 (ν 44) (row40 ν)) 0 nM) (row40 ν) (fun y => row5 ν y 0) ν ∧ (∀ j, j < nM → ∀ f, c0 ≤ f → f < 6 → row40 ν j f = 0) ∧ ∀ j, j < nM → FWB (row5 ν j 0) (row40 ν j)
def WHC (o : Nat) (sp : Int32) (m : Nat) (len : Nat → Nat) (nc : Nat → Nat → Nat) (ρ : zS) (e59 : Int32) (f60 : Nat → Int32) (v : Int32) : Prop := (v = -103 ∧ ∃ W, FSTW ρ (W 0) ∧ (∀ i j, i < j → j < 4000 → ¬ SAME5 (W i) (W j)) ∧ MNF o sp m len nc ρ W) ∨ (∃ n W w67, n ≤ 4000 ∧ 0 < n ∧ FSTW ρ (W 0) ∧ (∀ i j, i < j → j < n → ¬ SAME5 (W i) (W j)) ∧ TFQ o sp m len nc ρ W w67 n n ∧ ∀ c0 X, c0 ≤ 6 → (∀ s, s < n → STF o m len nc ρ (W s) (X s)) → (∀ s, s < n → ∀ f, c0 ≤ f → f < 6 → X s f = 0) → ∃ f71 : Nat → Int32, (∀ i y, (lst (pOut m c0 w67 X) 0 n)[i]? = some y → OCB m (W y 0) (X y) (f71 i)) ∧ ∀ nM, nM ≤ 4000 → e59 = Int32.ofNat nM → ANQ ((lst (pOut m c0 w67 X) 0 n).length = nM ∧ ∀ i, i < nM → ∃ s, s < (lst (pOut m c0 w67 X) 0 n).length ∧ f71 s = f60 i) v)
theorem c_wholeF {N i o m : Nat} {len : Nat → Nat} {nc : Nat → Nat → Nat} {ρ μ σ : zS} (pc : PC m len nc ρ μ) (e : ∀ q, 4 ≤ q → q ≤ 16 → σ q = ρ q) (om : o < m) (i6 : i < 6) (lt : Int32.ofNat i < σ 4 3) (a15 : ¬ σ 2 15 = 0) : zp (zf_X_whole N σ (Int32.ofNat i)) (fun r => (∀ q, q < 36 ∨ (40 < q ∧ q < 64) ∨ 75 < q → r.2 q = σ q) ∧ (∀ j, j ≠ i → r.2 75 j = σ 75 j) ∧ r.1 = r.2 75 i ∧ (¬ σ 75 i = -1 → r.2 75 i = σ 75 i) ∧ (σ 75 i = -1 → WHC o (Int32.ofNat i) m len nc ρ (σ 59 1) (σ 60) r.1)) := by
  have m4 := pc.1.1
  have i0 : ¬ Int32.ofNat i < 0 := fun q => by
    have := (zo_lt (k := i) (j := 0) (by omega) (by omega)).mp q
    omega
  have i6' : Int32.ofNat i < 6 := (zo_lt (k := i) (j := 6) (by omega) (by omega)).mpr i6
  have out : ∀ r : zS, zp (zb_X_whole_102 N r (Int32.ofNat i)) (fun s => s = (r 75 i, r)) := fun r => by
    unfold zb_X_whole_102
    rw [zo_n (m := i) (by omega)]
    exact zp_chk fun _ => zp_some rfl
  unfold zf_X_whole
  rw [zo_n (m := i) (by omega)]
  refine zp_ite (fun _ => zp_ite (fun q => absurd q i0) fun _ => zp_ite (fun q => absurd lt (Int32.not_lt.mpr q)) fun _ => zp_ite (fun _ => zp_chk fun _ => zp_ite (fun ne => zp_mono (out σ) fun s hs => ?_) fun eq => zp_chk fun _ => ?_) fun q => absurd i6' q) fun q => absurd a15 q
  · rw [hs]
    exact ⟨fun _ _ => rfl, fun _ _ => rfl, rfl, fun _ => rfl, fun q => absurd q ne⟩
  · have eq := Classical.not_not.mp eq
    have up : ∀ q, q ≠ 75 → (zx_up σ 75 i (-103)) q = σ q := fun q hq => zu_other hq
    refine zp_bind (zp_mono (c_exploreF (o := o) (sp := Int32.ofNat i) (σ := zx_up σ 75 i (-103)) pc (fun q a b => (up q (by omega)).trans (e q a b))) fun r9 h9 => ?_)
    obtain ⟨ok01, fn, fr⟩ := h9
    have f75 : r9.2 75 = zu (σ 75) i (-103) := by rw [fr 75 (by unfold KP6; omega), zx_up_same]
    have fq : ∀ q, q < 36 ∨ (40 < q ∧ q < 64) ∨ 75 < q → r9.2 q = σ q := fun q hq => (fr q (by unfold KP6; omega)).trans (up q (by omega))
    refine zp_ite (fun z => zp_mono (out r9.2) fun s hs => ?_) fun nz => ?_
    · rw [hs]
      refine ⟨fq, fun j hj => by dsimp only; rw [f75, zu_ne hj], rfl, fun q => absurd eq q, fun _ => Or.inl ⟨by dsimp only; rw [f75, zu_eq], ?_⟩⟩
      rcases fn with ⟨k, _⟩ | ⟨_, k⟩
      · exact absurd (z.symm.trans k) (by decide)
      · exact k
    · rcases fn with ⟨_, n, W, same, n4, pos, e6, fw, dis, tr⟩ | ⟨k, _⟩
      · refine zp_bind fun r11 e11 => zp_bind fun r12 e12 => ?_
        have rows9 : ∀ q, 4 ≤ q → q ≤ 16 → r9.2 q = ρ q := fun q a b => (fq q (by omega)).trans (e q a b)
        have l01 : ∀ s, s < n → r9.2 67 s = 0 ∨ r9.2 67 s = 1 := fun s hs => by
          obtain ⟨A, M, V, _, ⟨v0, v4⟩, _, ms⟩ := tr
          rw [v4 s hs]
          exact vvF s (fun t ht => (ms s t hs ht).2.2) (v0 s hs)
        have og : ∀ c0 X, c0 ≤ 6 → (∀ s, s < n → STF o m len nc ρ (W s) (X s)) → (∀ s, s < n → ∀ f, c0 ≤ f → f < 6 → X s f = 0) → (OTBW (lst (pOut m c0 (r9.2 67) X) 0 n).length r11 ∧ ∀ i y, (lst (pOut m c0 (r9.2 67) X) 0 n)[i]? = some y → OCB m (row5W r9.2 y 0) (X y) (r11 71 i)) ∧ ∀ q, KO6 q → r11 q = r9.2 q := fun c0 X c6 hX hz => c_ogatherF (o := o) (X := X) pc rows9 n4 e6 l01 (fun s hs => (hX s hs).congr om m4 (same s hs) (fun _ _ => rfl)) c6 hz r11 e11
        have fo : ∀ q, q < 36 ∨ (40 < q ∧ q < 64) ∨ 74 < q → r11 q = r9.2 q := fun q hq => sh_gather r11 e11 q (by omega)
        have w : WHC o (Int32.ofNat i) m len nc ρ (σ 59 1) (σ 60) r12 := by
          refine Or.inr ⟨n, W, r9.2 67, n4, pos, fw, dis, tr, fun c0 X c6 hX hz => ?_⟩
          obtain ⟨⟨ot, oc⟩, _⟩ := og c0 X c6 hX hz
          refine ⟨r11 71, fun j y ge => ?_, fun nM nM4 eM => ?_⟩
          · have mem := (lst_mem (p := pOut m c0 (r9.2 67) X) n 0 y).mp (List.mem_of_getElem? ge)
            have k := oc j y ge
            rw [same y (by omega) 0 (by omega)] at k
            exact k
          · have e59 : r11 59 1 = Int32.ofNat nM := by rw [fo 59 (by omega), fq 59 (by omega)]; exact eM
            have k := c_sameF ot e59 nM4 r12 e12
            rw [fo 60 (by omega), fq 60 (by omega)] at k
            exact k
        have fin : ∀ v : Int32, v = r12 → zp (zb_X_whole_101 N r11 (Int32.ofNat i) v (Int32.ofNat i)) (fun r => (∀ q, q < 36 ∨ (40 < q ∧ q < 64) ∨ 75 < q → r.2 q = σ q) ∧ (∀ j, j ≠ i → r.2 75 j = σ 75 j) ∧ r.1 = r.2 75 i ∧ (¬ σ 75 i = -1 → r.2 75 i = σ 75 i) ∧ (σ 75 i = -1 → WHC o (Int32.ofNat i) m len nc ρ (σ 59 1) (σ 60) r.1)) := fun v ev => by
          unfold zb_X_whole_101
          rw [zo_n (m := i) (by omega)]
          refine zp_chk fun _ => zp_mono (out _) fun s hs => ?_
          rw [hs]
          refine ⟨fun q hq => ?_, fun j hj => ?_, rfl, fun q => absurd eq q, fun _ => ?_⟩
          · dsimp only
            rw [zu_other (by omega), fo q (by omega)]
            exact fq q hq
          · dsimp only
            rw [zx_up_same, zu_ne hj, fo 75 (by omega), f75, zu_ne hj]
          · dsimp only
            rw [zx_up_same, zu_eq, ev]
            exact w
        have r01 : r12 = 0 ∨ r12 = 1 := c_same01 r12 e12
        refine zp_ite (fun z => fin 0 z.symm) fun nz' => fin 1 (r01.resolve_left nz').symm
      · exact absurd (ok01.resolve_right k) nz
theorem m_wholeF {N i o m c0 nM : Nat} {len : Nat → Nat} {nc : Nat → Nat → Nat} {ρ ν : zS} {v : Int32} (so : SPO o m len ρ (Int32.ofNat i)) (i6 : i < 6) (lt : Int32.ofNat i < ν 82 25) (ns : ν 82 25 ≤ 6) (e91 : ν 91 i = Int32.ofNat o) (s97 : ∀ t z, t < m → z < len t → ν 97 (24 * t + z) = ρ 12 (24 * t + z)) (e53 : ν 82 53 = 1) (pc : PC m len nc ρ ν) (fl : FLV ρ ν) (e40 : ρ 4 0 = Int32.ofNat c0) (e15 : ν 82 15 = Int32.ofNat c0) (sta : STA m len nc ρ) (nwr : NWR m len c0 ρ) (mr : MNR m c0 nM ν) (wh : WHC o (Int32.ofNat i) m len nc ρ (ν 59 1) (ν 60) v) : zp (zf_M_whole N ν (Int32.ofNat i)) (fun s => s.1 = v) := by
  have c6 := mr.1
  have m4 := pc.1.1
  have om := so.1
  have l24 : ∀ t, t < m → len t ≤ 24 := fun t ht => (pc.2.1 t ht).1
  unfold zf_M_whole
  refine zp_ite (fun _ => zp_bind (zp_mono p_M_in2 fun r2 h2 => ?_)) fun q => absurd (by rw [e53]; decide) q
  have r21 : r2 = 1 := by
    rcases h2 with ⟨e, _⟩ | ⟨_, n⟩
    · exact e
    · refine absurd ⟨(zo_le (k := 0) (j := i) (by omega) (by omega)).mpr (Nat.zero_le _), ?_⟩ n
      obtain ⟨k, hk, ek⟩ := z_ex (x := ν 82 25) (m := 7) (by omega) (Int32.le_of_lt (Int32.lt_of_le_of_lt ((zo_le (k := 0) (j := i) (by omega) (by omega)).mpr (Nat.zero_le _)) lt)) (Int32.lt_of_le_of_lt ns (by decide))
      rw [ek] at lt ⊢
      have ik := (zo_lt (k := i) (j := k) (by omega) (by omega)).mp lt
      rw [zo_pred (by omega) (by omega)]
      exact (zo_le (by omega) (by omega)).mpr (by omega)
  rw [r21, zo_n (m := i) (by omega), e91]
  refine zp_ite (fun _ => zp_chk fun _ => zp_bind (zp_mono (m_forget (b := 4000) (by omega)) fun r5 h5 => ?_)) fun q => absurd (by decide) q
  obtain ⟨rb, f5, g5⟩ := h5
  have q82 : ∀ j, j ≠ 0 → j ≠ 51 → j ≠ 52 → r5 82 j = ν 82 j := fun j a b c => by rw [g5 j b c, zx_up_same, zu_ne a]
  have qq : ∀ q, q ≠ 82 → q ≠ 109 → r5 q = ν q := fun q a b => by rw [f5 q a b, zu_other a]
  have pc5 : PC m len (nmk nc 0) ρ r5 := (pc.q (fun q hq => qq q (by omega) (by omega)) (q82 17 (by decide) (by decide) (by decide))).nmk
  have fl5 : FLV ρ r5 := fl.of rfl rfl (qq 89 (by decide) (by decide))
  have e155 : r5 82 15 = Int32.ofNat c0 := (q82 15 (by decide) (by decide) (by decide)).trans e15
  have go : ∀ (W : Nat → Nat → Int32) (L : Nat → Int32) {Q : Int32 × zS → Prop}, FSTW ρ (W 0) → (∀ ν1, RGF o m len nc ρ W c0 L 0 1 0 ν ν1 → zp (zb_M_whole_63 N N ν1 (Int32.ofNat i) (Int32.ofNat o) 0 (Int32.ofNat (4000 + 0))) Q) → zp ((zf_M_firstState N r5).bind fun r6 => (zf_M_put N r6).bind fun r7 => zb_M_whole_63 N N r7.2 (Int32.ofNat i) (Int32.ofNat o) 0 4000) Q := by
    intro W L Q fw k
    refine zp_bind (zp_mono (m_first pc5 fl5 e40 e155 c6 sta.nmk fw) fun r6 h6 => ?_)
    obtain ⟨f6, st⟩ := h6
    have pc6 := pc5.f f6
    have rb6 : RTB 4000 0 r6 := rb.of (fun q hq => f6 q (by omega)) ⟨by rw [f6 82 (by decide)], by rw [f6 82 (by decide)]⟩
    have b17 : ∀ t, t < 4 → gb (W 0 (t + 1)) 17 = false := fun t ht => by
      by_cases c : t < m
      · exact (st.2.1 t c).2.2.2.2 17 (by omega)
      · rw [(st.2.2.1 t (by omega) ht).1]
        exact gb_65536
    have stf : STF o m len nc ρ (W 0) (r6 107) := by
      refine ⟨0, by omega, st.congr m4 (fun j hj => ?_) (fun _ _ => rfl), fun t ht => ?_, fun _ => rfl⟩
      · cases j with
        | zero => exact wm_0
        | succ t =>
          refine gb_ext fun b hb => ?_
          by_cases c : b = 17
          · rw [c, b17 t (by omega), wm_s]
            exact clr17
          · exact (wm_mk (w := W 0) (t := t) b hb c).symm
      · rw [b17 t ht]
        exact ⟨fun k => absurd k (by decide), fun k => absurd k.2 (by omega)⟩
    refine zp_bind (zp_mono (m_put rb6 (stf.byte (pc.q (fun q hq => (f6 q (by omega)).trans (qq q (by omega) (by omega))) (by rw [f6 82 (by decide)]; exact q82 17 (by decide) (by decide) (by decide))))) fun r7 h7 => k r7.2 ?_)
    rcases h7 with ⟨s, s1, s2, _⟩ | ⟨_, ⟨_, _, rn⟩ | ⟨nn, _⟩⟩
    · exact absurd s2 (by omega)
    · obtain ⟨rb7, rnew, rold, f7, g7⟩ := rn
      have pcr : PC m len nc ρ r7.2 := pc.q (fun q hq => (f7 q (by omega) (by omega) (by omega) (by omega)).trans ((f6 q (by omega)).trans (qq q (by omega) (by omega)))) (by rw [g7 17 (by decide), f6 82 (by decide)]; exact q82 17 (by decide) (by decide) (by decide))
      refine ⟨pcr, rb7, fun j hj => ?_, ⟨fun j hj => ?_, ?_, ?_, ?_⟩, Nat.zero_le _, ⟨c6, ?_⟩, fun j hj f a b => ?_, STL.nil⟩
      · have j0 : j = 0 := by omega
        subst j0
        exact stf.congr om m4 SAME5.rfl' rnew
      · have q := rold (j / 40) (by omega) (j % 40) (Nat.mod_lt _ (by decide))
        unfold row40 at q
        rw [show 40 * (j / 40) + j % 40 = j by omega] at q
        rw [q, f6 108 (by decide), qq 108 (by decide) (by decide)]
      · rw [f7 115 (by decide) (by decide) (by decide) (by decide), f6 115 (by decide), qq 115 (by decide) (by decide)]
      · rw [f7 97 (by decide) (by decide) (by decide) (by decide), f6 97 (by decide), qq 97 (by decide) (by decide)]
      · rw [g7 60 (by decide), f6 82 (by decide)]
        exact q82 60 (by decide) (by decide) (by decide)
      · rw [g7 15 (by decide), f6 82 (by decide)]
        exact e155
      · have j0 : j = 0 := by omega
        subst j0
        have x0 : XT r7.2 0 f = r6 107 f := rnew f (by omega)
        rw [x0]
        have fwb := st.1
        rw [fw.1] at fwb
        refine gb_ext fun i hi => ?_
        rw [gb_zero]
        by_cases c : i < 3
        · rw [← fwb.2.1 f b i c]
          exact fl5.2 c0 e40 c6 (3 * f + i) (by omega)
        · exact gb_lo7 (fwb.1 f b) (by omega)
    · omega
  rcases wh with ⟨ev, W, fw, dis, S, T, w67, a, v', S4, Tm, ⟨A, M, V, ⟨m0, mT, mS, mB⟩, ⟨v0, vT, v4⟩, ⟨ha, aS⟩, ms⟩, may, can, w', mv, new⟩ | ⟨n, W, w67, n4, pos, fw, dis, ⟨A, M, V, ⟨m0, mT, mS, mB⟩, ⟨v0, v4⟩, ha, ms⟩, cls⟩
  · rw [ev]
    exact go W (fun s => V s m) fw fun ν1 rg => m_manyF so s97 nwr dis Tm mT mS mB ha (fun s t k => (ms s t k).2) v0 (by omega) (by rw [aS]; exact may) can mv new N 0 ν1 0 (Nat.zero_le _) (by rw [m0]; exact rg)
  · refine go W (fun s => V s m) fw fun ν1 rg => m_doneF so s97 nwr n4 dis mT mS mB ha (fun s t hs ht => (ms s t hs ht).2) v0 (by omega) (fun v4' μ rgn => ?_) N 0 ν1 0 (Nat.zero_le _) (by rw [m0]; exact rg)
    obtain ⟨pcn, rbn, g3, ⟨g4, g5', g6, g7⟩, _, ⟨_, k2⟩, k3, sl⟩ := rgn
    obtain ⟨_, nM4, sm, ⟨cd1, cd2⟩, hzM, fwM⟩ := mr
    have lnM := lst_len (p := pOut m c0 (ν 44) (row40 ν)) nM 0
    have lnT := lst_len (p := pOut m c0 w67 (XT μ)) n 0
    have memM : ∀ y, y ∈ lst (pOut m c0 (ν 44) (row40 ν)) 0 nM → y < nM := fun y my => by
      have := ((lst_mem nM 0 y).mp my).2.1
      omega
    have eL : lst (pOut m c0 (fun s => V s m) (XT μ)) 0 n = lst (pOut m c0 w67 (XT μ)) 0 n := (lst_outL fun s hs => v4 s hs).symm
    have rowM : ∀ y, y < 4000 → ∀ j, j < 40 → row40 μ y j = row40 ν y j := fun y hy j hj => g4 (40 * y + j) (by omega)
    obtain ⟨f71, oc, ans⟩ := cls c0 (XT μ) c6 g3 k3
    have ans := ans (lst (pOut m c0 (ν 44) (row40 ν)) 0 nM).length (by omega) cd1
    have cmp : ∀ s0 : Int32, (s0 = 0 ∨ s0 = 1) → zp (zb_M_whole_391 N μ v4' s0) (fun r => ANQ (s0 = 1 ∧ ∀ y, y ∈ lst (pOut m c0 w67 (XT μ)) 0 n → ∃ y', y' ∈ lst (pOut m c0 (ν 44) (row40 ν)) 0 nM ∧ OEQ m c0 (XT μ y) (row40 μ y')) r.1) := fun s0 h0 => by
      have k := m_cmpF (N := N) (n := n) (L := fun s => V s m) (Lm := lst (pOut m c0 (ν 44) (row40 ν)) 0 nM) m4 c6 k2 pcn.1.2.2 n4 sl (by rw [g7, g5']; exact sm) ⟨by omega, fun y my => by have := memM y my; omega⟩ h0
      rw [eL] at k
      exact k
    have oln : v4' = Int32.ofNat (lst (pOut m c0 w67 (XT μ)) 0 n).length := by
      have k := sl.1
      unfold OLS at k
      rw [List.length_map, eL] at k
      exact k
    have lens : v4' = μ 82 60 ↔ (lst (pOut m c0 w67 (XT μ)) 0 n).length = (lst (pOut m c0 (ν 44) (row40 ν)) 0 nM).length := by
      rw [oln, g7, sm.1]
      exact ⟨fun e => zo_inj (by omega) (by omega) e, fun e => by rw [e]⟩
    have code : ∀ s y i y', (lst (pOut m c0 w67 (XT μ)) 0 n)[s]? = some y → (lst (pOut m c0 (ν 44) (row40 ν)) 0 nM)[i]? = some y' → (f71 s = ν 60 i ↔ OEQ m c0 (XT μ y) (row40 ν y')) := fun s y i y' e e' => by
      have my := ((lst_mem n 0 y).mp (List.mem_of_getElem? e)).2.1
      have my' := memM y' (List.mem_of_getElem? e')
      exact OCB.eq m4 (g3 y (by omega)).fwb (fwM y' my') (k3 y (by omega)) (hzM y' my') (oc s y e) (cd2 i y' e') c6
    have two : ((lst (pOut m c0 w67 (XT μ)) 0 n).length = (lst (pOut m c0 (ν 44) (row40 ν)) 0 nM).length ∧ ∀ i, i < (lst (pOut m c0 (ν 44) (row40 ν)) 0 nM).length → ∃ s, s < (lst (pOut m c0 w67 (XT μ)) 0 n).length ∧ f71 s = ν 60 i) ↔ ((lst (pOut m c0 w67 (XT μ)) 0 n).length = (lst (pOut m c0 (ν 44) (row40 ν)) 0 nM).length ∧ ∀ y, y ∈ lst (pOut m c0 w67 (XT μ)) 0 n → ∃ y', y' ∈ lst (pOut m c0 (ν 44) (row40 ν)) 0 nM ∧ OEQ m c0 (XT μ y) (row40 μ y')) := by
      have cgm : ∀ y y', y' < nM → (OEQ m c0 (XT μ y) (row40 μ y') ↔ OEQ m c0 (XT μ y) (row40 ν y')) := fun y y' hy => OEQ.cg m4 c6 (fun _ _ => rfl) (rowM y' (by omega))
      constructor
      · rintro ⟨el, h⟩
        refine ⟨el, fun y my => ?_⟩
        have k : ∀ y', y' ∈ lst (pOut m c0 (ν 44) (row40 ν)) 0 nM → ∃ y, y ∈ lst (pOut m c0 w67 (XT μ)) 0 n ∧ OEQ m c0 (XT μ y) (row40 ν y') := fun y' my' => by
          obtain ⟨j, hj, gj⟩ := List.mem_iff_getElem.mp my'
          obtain ⟨s, hs, es⟩ := h j hj
          have gs := List.getElem?_eq_getElem hs
          exact ⟨_, List.mem_of_getElem? gs, (code s _ j y' gs (by rw [List.getElem?_eq_getElem hj, gj])).mp es⟩
        obtain ⟨y', my', oe⟩ := (out_same el).mpr k y my
        exact ⟨y', my', (cgm y y' (memM y' my')).mpr oe⟩
      · rintro ⟨el, h⟩
        refine ⟨el, fun j hj => ?_⟩
        have k : ∀ y, y ∈ lst (pOut m c0 w67 (XT μ)) 0 n → ∃ y', y' ∈ lst (pOut m c0 (ν 44) (row40 ν)) 0 nM ∧ OEQ m c0 (XT μ y) (row40 ν y') := fun y my => by
          obtain ⟨y', my', oe⟩ := h y my
          exact ⟨y', my', (cgm y y' (memM y' my')).mp oe⟩
        have gj := List.getElem?_eq_getElem hj
        obtain ⟨y, my, oe⟩ := (out_same el).mp k _ (List.mem_of_getElem? gj)
        obtain ⟨s, hs, gs⟩ := List.mem_iff_getElem.mp my
        exact ⟨s, hs, (code s y j _ (by rw [List.getElem?_eq_getElem hs, gs]) gj).mpr oe⟩
    refine zp_ite (fun ne => zp_mono (cmp 0 (Or.inl rfl)) fun r hr => ?_) fun eq => zp_mono (cmp 1 (Or.inr rfl)) fun r hr => ?_
    · exact hr.one ans ⟨fun k => absurd k.1 (by decide), fun k => absurd (lens.mpr k.1) ne⟩
    · refine hr.one ans (Iff.trans ⟨fun k => ⟨lens.mp (Classical.not_not.mp eq), k.2⟩, fun k => ⟨rfl, k.2⟩⟩ two.symm)
