-- both answer alike
set_option maxRecDepth 2000
theorem NSM.c7 {c : Nat → Nat} {ws : Nat → Nat → Int64} {nv : Nat} {wv : Nat → Int64} {μ ν : zS} (h : NSM c ws nv wv μ) (f : ∀ q, q ≠ 82 → q ≠ 94 → q ≠ 95 → q ≠ 102 → q ≠ 103 → q ≠ 104 → q ≠ 105 → q ≠ 106 → ν q = μ q) (g : ∀ i, i ≠ 5 → i ≠ 6 → i ≠ 7 → i ≠ 8 → i ≠ 37 → i ≠ 46 → ν 82 i = μ 82 i) : NSM c ws nv wv ν :=
  h.of (fun i hi => g i (by omega) (by omega) (by omega) (by omega) (by omega) (by omega)) (fun p _ => by rw [f 86 (by decide) (by decide) (by decide) (by decide) (by decide) (by decide) (by decide) (by decide)]) (fun p _ => by rw [f 85 (by decide) (by decide) (by decide) (by decide) (by decide) (by decide) (by decide) (by decide)])
theorem LAT.c7 {c : Nat → Nat} {ws : Nat → Nat → Int64} {len : Nat → Nat} {ρ r μ ν : zS} {τ υ : zT} (h : LAT c ws len ρ τ μ) (e24 : r 24 = ρ 24) (e23 : υ 23 = τ 23) (f : ∀ q, q ≠ 82 → q ≠ 94 → q ≠ 95 → q ≠ 102 → q ≠ 103 → q ≠ 104 → q ≠ 105 → q ≠ 106 → ν q = μ q) (g : ∀ i, i ≠ 5 → i ≠ 6 → i ≠ 7 → i ≠ 8 → i ≠ 37 → i ≠ 46 → ν 82 i = μ 82 i) : LAT c ws len r υ ν := by
  have n : ∀ q, q = 85 ∨ q = 86 ∨ q = 87 ∨ q = 92 ∨ q = 93 → ν q = μ q := fun q hq => f q (by omega) (by omega) (by omega) (by omega) (by omega) (by omega) (by omega) (by omega)
  exact h.of e24 e23 (g 19 (by decide) (by decide) (by decide) (by decide) (by decide) (by decide)) (n 87 (by decide)) (n 92 (by decide)) (n 93 (by decide)) (fun p _ => by rw [n 86 (by decide)]) (fun p _ => by rw [n 85 (by decide)])
theorem PKW.dep {c len : Nat → Nat} {d d' : Nat} {ρ μ r ν : zS} (h : PKW c len d ρ μ) (hd : 0 < d) (d8 : d' ≤ 8) (g : ∀ q, q = 4 ∨ q = 5 ∨ q = 7 → r q = ρ q) (e6 : r 29 6 = Int32.ofNat d') (e8 : r 29 8 = ρ 29 8) (e12 : r 29 12 = ν 82 41) (gm : ∀ q, q = 90 ∨ q = 92 → ν q = μ q) (g2 : ∀ i, i = 25 ∨ i = 39 → ν 82 i = μ 82 i) (e46 : ν 82 46 = Int32.ofNat d') (bl : ∀ i, i < d' → r 30 i = ν 103 i) : PKW c len d' r ν := by
  obtain ⟨p1, p2, p3, p4, p5, p6, p7⟩ := h
  obtain ⟨q1, q2, q3, q4, q5, q6⟩ := p6 hd
  refine ⟨fun t ht => by rw [g 5 (by decide), gm 90 (by decide)]; exact p1 t ht, fun t a b => by rw [g 5 (by decide)]; exact p2 t a b, by rw [g 4 (by decide)]; exact p3, by rw [g 4 (by decide), g2 25 (by decide)]; exact p4, ⟨d8, e6⟩, fun _ => ⟨q1, e8.trans q2, (g2 39 (by decide)).trans q3, e12, e46, bl⟩, fun t s ht hs => by rw [g 7 (by decide), gm 92 (by decide)]; exact p7 t s ht hs⟩
def OTH (d t : Nat) (lo l4 : List Nat) (μ ν : zS) : Prop :=
  ((μ 103 (d - 1) ≠ 4 ∧ μ 103 (d - 1) ≠ 5) ∧ ν = μ) ∨ (μ 103 (d - 1) = 4 ∧ FJ μ ν l4 lo (μ 105 (d - 1))) ∨
  (μ 103 (d - 1) = 5 ∧ ∀ z, z < 24 → μ 104 (d - 1) = Int32.ofNat z → (∀ q, q ≠ 82 → q ≠ 94 → q ≠ 95 → q ≠ 102 → ν q = μ q) ∧ (∀ i, ν 94 i = if 24 * t ≤ i ∧ 2 * (i - 24 * t) ∈ lo then Int32.ofNat z else μ 94 i) ∧ (∀ i, ν 95 i = if 24 * t ≤ i ∧ 2 * (i - 24 * t) + 1 ∈ lo then Int32.ofNat z else μ 95 i) ∧ (ν 82 37 = Int32.ofNat (2 * z + 1) ∧ ν 102 (2 * z + 1) = -1 ∧ ∀ k, k ≠ 2 * z + 1 → ν 102 k = μ 102 k) ∧ ∀ i, i ≠ 37 → ν 82 i = μ 82 i)
theorem s_close {T : TS} {a N N' : Nat} {c : Nat → Nat} {ws : Nat → Nat → Int64} {nv : Nat} {wv : Nat → Int64} {len : Nat → Nat} {d : Nat} {ρ : zS} {τ : zT} {μ : zS} (rl : RLX T a c ws nv wv len d ρ τ μ) (hd : 0 < d) (hk : T.1 a = 125) : zp (zf_Reader_closeBlock N ρ τ) (fun r => zp (zf_M_closeBlock N' μ) (fun s => OUT T a c ws r.1 r.2 s)) := by
  obtain ⟨t4, h8, h5, hL, h39, h90⟩ := rl.th hd
  obtain ⟨sx, sm, ns, nm, pk, la, vx⟩ := rl
  have kk : ¬ T.1 a = 0 ∧ ¬ T.1 a = 1 := by rw [hk]; decide
  obtain ⟨q1, q2, q3, q4, h46, q6⟩ := pk.2.2.2.2.2.1 hd
  have d8 := pk.2.2.2.2.1.1
  have h6 := pk.2.2.2.2.1.2
  have c4 := ns.1.c2
  have hb : ρ 30 (d - 1) = μ 103 (d - 1) := q6 (d - 1) (by omega)
  obtain ⟨own, lo, lw, cw⟩ := vx.2 hd
  have mk := (vx.1.2 hd).2.1
  have len24 : ∀ t, t < c 2 → len t ≤ 24 := fun t ht => (pk.1 t ht).1
  have top0 : d - 1 = 0 → μ 103 (d - 1) = 0 := fun q => (mk (d - 1) (by omega)).1.1.mpr q
  have nn : ∀ {x : Int32}, ρ 30 (d - 1) = x → μ 103 (d - 1) = x := fun h => hb.symm.trans h
  have inn : zp (zf_Weaver_innermost ρ) (fun r => r = ρ 30 (d - 1)) := by
    unfold zf_Weaver_innermost
    rw [h6, zo_pred hd (by omega), zo_n (by omega)]
    refine zp_ite (fun q => ?_) fun _ => zp_ite (fun q => ?_) fun _ => zp_chk fun _ => zp_some rfl
    · have := (zo_le (k := d) (j := 0) (by omega) (by omega)).mp q
      omega
    · have := (zo_lt (k := 8) (j := d) (by omega) (by omega)).mp q
      omega
  have refOther : μ 103 (d - 1) ≠ 1 → ∀ {Q : zS → Prop}, (∀ μ', WY μ μ' → OTH d (c 2 - 1) lo (lw (d - 1)) μ μ' → (μ 103 (d - 1) ≠ 2) → zp (zb_M_closeBlock_177 N' μ' (Int32.ofNat (d - 1))) Q) → (μ 103 (d - 1) = 2 → zp (zb_M_closeBlock_177 N' (zx_up μ 82 41 (-1)) (Int32.ofNat (d - 1))) Q) → zp (zf_M_closeBlock N' μ) Q := by
    intro n1 Q k1 k2
    unfold zf_M_closeBlock
    rw [h46, zo_pred hd (by omega), zo_n (m := d - 1) (by omega)]
    have id' : WY μ μ := ⟨fun _ _ _ _ _ => rfl, fun _ _ => rfl⟩
    have tbm : tb μ = 24 * (c 2 - 1) := by unfold tb; rw [h39, zo_n (by omega)]
    refine zp_chk fun _ => zp_ite (fun q => absurd q n1) fun _ => zp_ite (fun q => k2 q) fun n2 => zp_ite (fun q => k1 μ id' (Or.inl ⟨⟨by rw [q]; decide, by rw [q]; decide⟩, rfl⟩) n2) fun _ => zp_ite (fun q => zp_chk fun _ => ?_) fun n4 => zp_ite (fun q => zp_chk fun _ => ?_) fun n5 => k1 μ id' (Or.inl ⟨⟨n4, n5⟩, rfl⟩) n2
    · obtain ⟨l1, l2⟩ := cw.2.1 (d - 1) (by omega) q
      exact zp_bind (zp_mono (zp_and p_M_joinOpen (p_M_join1 l1 cw.1.1 (fun k hk hk' => by have := l2 k hk; have := cw.1.2 k hk'; omega))) fun r hr => k1 r hr.1 (Or.inr (Or.inl ⟨q, hr.2⟩)) n2)
    · obtain ⟨z, zn, z31, z104, kz⟩ := (mk (d - 1) (by omega)).2.1 (Or.inr (Or.inr q))
      refine zp_bind (zp_mono (zp_and p_M_lead0 (p_M_lead1 (lo := lo) (by rw [h39]; exact ⟨(zo_le (k := 0) (j := c 2 - 1) (by omega) (by omega)).mpr (Nat.zero_le _), (zo_lt (k := c 2 - 1) (j := 4) (by omega) (by omega)).mpr t4⟩) cw.1.1)) fun r22 h22 => zp_chk fun _ => ?_)
      obtain ⟨h22, fl⟩ := h22
      rw [fl.fr 104 (by decide) (by decide) (by decide), z104]
      refine zp_bind (zp_mono (zp_and p_M_wayOf (p_M_way1 (show z < 24 by omega))) fun r24 h24 => k1 _ (h22.wy.tr h24.1.2) (Or.inr (Or.inr ⟨q, fun z' hz' e => ?_⟩)) n2)
      have ez := zo_inj (k := z') (j := z) (by omega) (by omega) (e.symm.trans z104)
      subst ez
      rw [h24.2.1, h24.2.2]
      refine ⟨fun q a b c e => by rw [zu_other a, zu_other e, fl.fr q a b c], fun i => ?_, fun i => ?_, ⟨by rw [zx_up_same, zu_eq], by rw [zu_other (by decide), zx_up_same, zu_eq], fun k hk => by rw [zu_other (by decide), zx_up_same, zu_ne hk, fl.fr 102 (by decide) (by decide) (by decide)]⟩, fun i hi => by rw [zx_up_same, zu_ne hi, zu_other (by decide), fl.ff i hi]⟩
      · rw [zu_other (by decide), zu_other (by decide), fl.b4, tbm, z104]
      · rw [zu_other (by decide), zu_other (by decide), fl.b5, tbm, z104]
  have refLock : μ 103 (d - 1) = 1 → ∀ {Q : zS → Prop}, (len (c 2 - 1) = 24 → ∀ s, MFl s (T.2.1 a) → Q s) → (len (c 2 - 1) < 24 → ∀ (μ' : zS), ADS (c 2 - 1) (len (c 2 - 1)) 4 (ρ 31 (d - 1)) μ μ' → zp (zb_M_closeBlock_177 N' (zx_up μ' 82 40 (ρ 34 (d - 1))) (Int32.ofNat (d - 1))) Q) → zp (zf_M_closeBlock N' μ) Q := by
    intro e1 Q k1 k2
    obtain ⟨z, zn, z104, z93, z96, z106⟩ := (mk (d - 1) (by omega)).2.2 e1
    unfold zf_M_closeBlock
    rw [h46, zo_pred hd (by omega), zo_n (m := d - 1) (by omega), z104, h39, (z24 (L := z) t4 (by omega)).2.1, ← z93]
    refine zp_chk fun _ => zp_ite (fun _ => zp_chk fun _ => zp_chk fun _ => zp_bind (zp_mono (p_M_addStep h39 t4 h90 hL sm.2.2.2) fun r29 h29 => ?_)) fun q => absurd e1 q
    rcases h29 with ⟨l, _, fl⟩ | ⟨l, _, as⟩
    · rw [sm.p] at fl
      exact zp_ite (fun q => absurd q fl.1) fun _ => zp_some (k1 l _ fl)
    · have n104 : r29.2 104 = μ 104 := as.1 104 (by decide) (by decide) (by decide) (by decide) (by decide) (by decide) (by decide) (by decide) (by decide)
      have n106 : r29.2 106 = μ 106 := as.1 106 (by decide) (by decide) (by decide) (by decide) (by decide) (by decide) (by decide) (by decide) (by decide)
      obtain ⟨_, o93, o96, _⟩ := as.2.2.2.2.2.1 (24 * (c 2 - 1) + z) (by omega)
      rw [n104, n106, z104, (z24 (L := z) t4 (by omega)).2.1, o93, o96, ← z93, z106, z96, hold_back]
      exact zp_ite (fun _ => zp_chk fun _ => zp_chk fun _ => zp_chk fun _ => zp_chk fun _ => zp_chk fun _ => k2 l _ as) fun q => absurd (by rw [as.2.1 9 (by decide)]; exact sm.2.2.2) q
  have main : (ρ 30 (d - 1) = 1 → len (c 2 - 1) < 24) → zp (zb_Reader_closeBlock_21 N ρ τ (ρ 30 (d - 1))) (fun r => zp (zf_M_closeBlock N' μ) (fun s => OUT T a c ws r.1 r.2 s)) := by
    intro room
    unfold zb_Reader_closeBlock_21
    refine zp_bind (zp_mono (X.tk sm.1 sx ns kk) ?_)
    rintro r3 ⟨x1, x2, x3, x4, x5, x6⟩
    have r29 : r3.1 29 = ρ 29 := x3.1 29 (by decide)
    have r30 : r3.1 30 = ρ 30 := x3.1 30 (by decide)
    have vx3 : VX c len d r3.1 μ := vx.of (fun q hq => x3.1 q (by omega)) (fun i _ => by rw [r29]) (fun _ _ => rfl) ⟨rfl, rfl⟩
    have lv : (ρ 30 (d - 1) ≠ 3 ∨ T.1 (a + 1) ≠ 305) → zp (zb_Reader_closeBlock_70 N r3.1 r3.2) (fun r => zp (zf_M_closeBlock N' μ) (fun s => OUT T a c ws r.1 r.2 s)) := by
      intro hno
      unfold zb_Reader_closeBlock_70
      refine zp_bind (zp_mono (zp_and (p_X_leave (d := d) (t := c 2 - 1) (L := len (c 2 - 1)) (by rw [r29]; exact h6) ⟨hd, d8⟩ (by rw [r29]; exact h8) t4 (by rw [x3.1 5 (by decide)]; exact h5) (by rw [r30]; exact room)) (p_X_leave1 (d := d) (t := c 2 - 1) (L := len (c 2 - 1)) (by rw [r29]; exact h6) ⟨hd, d8⟩ (by rw [r29]; exact h8) t4 (by rw [x3.1 5 (by decide)]; exact h5) hL (by rw [r30]; exact room))) fun r5 lv => zp_some ?_)
      obtain ⟨⟨l1, l2, l3⟩, lv1⟩ := lv
      rw [r30] at l3
      rcases l3 with ⟨e1, _, l12⟩ | ⟨n1, fr, l12⟩
      ·
        have hl := room e1
        obtain ⟨r', em, fr, f9, f10, f11⟩ : ∃ r', EM (c 2 - 1) (len (c 2 - 1)) 4 (r3.1 31 (d - 1)) r3.1 r' ∧ (∀ q, q ≠ 29 → r5 q = r' q) ∧ r5 29 9 = r' 29 9 ∧ r5 29 10 = r' 29 10 ∧ r5 29 11 = r3.1 34 (d - 1) := by
          rcases lv1 with ⟨k, _⟩ | ⟨_, r', em, _, fe, ff, f11⟩ | ⟨k, _⟩ | ⟨k, _⟩ | ⟨k, _⟩ | ⟨k, _⟩
          · rw [r30, e1] at k; exact absurd k (by decide)
          · exact ⟨r', em, fe, ff.1, ff.2, f11⟩
          · rw [r30, e1] at k; exact absurd k (by decide)
          · rw [r30, e1] at k; exact absurd k (by decide)
          · rw [r30, e1] at k; exact absurd k (by decide)
          · rw [r30, e1] at k; exact absurd rfl k.2.1
        refine refLock (nn e1) (fun l' => by omega) fun _ μ' as => ?_
        generalize hy : ρ 34 (d - 1) = y
        have f' : ∀ q, q = 17 ∨ q = 18 ∨ q = 20 ∨ q = 21 ∨ q = 24 ∨ q = 25 ∨ q = 26 ∨ q = 27 → r5 q = r3.1 q := fun q hq => by rw [fr q (by omega), em.1 q (by omega) (by omega) (by omega) (by omega) (by omega) (by omega) (by omega) (by omega) (by omega)]
        have gg : ∀ q, q ≠ 82 → (zx_up μ' 82 40 y) q = μ' q := fun q hq => zu_other hq
        have as' : ∀ q, q = 84 ∨ q = 85 ∨ q = 86 ∨ q = 103 → μ' q = μ q := fun q hq => as.1 q (by omega) (by omega) (by omega) (by omega) (by omega) (by omega) (by omega) (by omega) (by omega)
        have g82 : ∀ i, i ≠ 40 → i ≠ 37 → (zx_up μ' 82 40 y) 82 i = μ 82 i := fun i a b => by rw [zx_up_same, zu_ne a, as.2.1 i b]
        have sm1 : SM T a (zx_up μ' 82 40 y) := sm.of (by rw [gg 84 (by decide), as' 84 (by decide)]) fun i hi => g82 i (by omega) (by omega)
        have nm1 : NSM c ws nv wv (zx_up μ' 82 40 y) := nm.of (fun i hi => g82 i (by omega) (by omega)) (fun p _ => by rw [gg 86 (by decide), as' 86 (by decide)]) (fun p _ => by rw [gg 85 (by decide), as' 85 (by decide)])
        have me : MEx (c 2 - 1) (len (c 2 - 1)) 4 μ μ' := MEx.of as
        have ce : CEx (c 2 - 1) (len (c 2 - 1)) 4 ρ r' := CEx.of x4 em
        have pk1 := (pk.step hd rfl rfl hl c4 ce me).h40 (x := y)
        have la1 := (la.step pk rfl rfl ce me (x5 23 (by decide) (by decide)) (by decide)).h40 (x := y)
        obtain ⟨vx1, own1, lo1, lw1, cw1, _⟩ := vx.step pk hd rfl rfl hl ce me (SBJ.eq (by decide) (em.2.2.2.2.2.1.2.1.trans (by rw [as.2.2.2.2.1.2.1, x3.1 31 (by decide)])))
        have e103 : (zx_up μ' 82 40 y) 103 = μ 103 := by rw [gg 103 (by decide), as' 103 (by decide)]
        have k3 : (zx_up μ' 82 40 y) 103 (d - 1) ≠ 3 := by rw [e103, nn e1]; decide
        refine zp_mono (zp_and (p_M_177 sm1 hk (by rw [g82 46 (by decide) (by decide)]; exact h46) ⟨hd, d8⟩) (p_M_177W (lo := lo1) sm1 hk (by rw [g82 46 (by decide) (by decide)]; exact h46) ⟨hd, d8⟩ (by rw [gg 102 (by decide), zx_up_same, zu_ne (by decide)]; exact cw1.1.1) (fun q => absurd q k3))) fun s hs => ?_
        obtain ⟨hs, cw7⟩ := hs
        obtain ⟨w1, w2⟩ := cw7.1 k3
        rcases hs with ⟨_, s1, c7⟩ | ⟨e3, _⟩
        · refine Or.inr ⟨a + 1, nv, wv, _, d - 1, by omega, fun q => absurd ((top0 q).symm.trans (nn e1)) (by decide), x1.of (f' 17 (by decide)) (f' 25 (by decide)) (f' 26 (by decide)) (f' 27 (by decide)) rfl rfl, s1, x2.of (fun s hs => ?_) (f' 18 (by decide)) (f' 20 (by decide)) (f' 21 (by decide)) rfl rfl, nm1.c7 (fun q a b c d _ _ _ _ => c7.1 q a b c d) c7.2.2, pk1.dep hd (by omega) (fun q hq => fr q (by omega)) l1 ?_ ?_ (fun q hq => c7.1 q (by omega) (by omega) (by omega) (by omega)) (fun i hi => c7.2.2 i (by omega) (by omega) (by omega) (by omega) (by omega) (by omega)) c7.2.1 (fun i hi => ?_), la1.c7 (fr 24 (by decide)) rfl (fun q a b c d _ _ _ _ => c7.1 q a b c d) c7.2.2, vx1.shr hd (Nat.sub_le _ _) (fun q hq => fr q (by omega)) ⟨f9, f10⟩ (fun q hq => by rw [w1 q (by omega), gg q (by omega)]) (by rw [w2, zx_up_same, zu_ne (by decide)]) (by dsimp only; rw [f11, x3.1 34 (by decide), hy, cw7.2.2, zx_up_same, zu_eq])⟩
          · dsimp only
            rw [fr 4 (by decide), em.2.1 s (by omega)]
          · dsimp only
            rw [l2, em.2.2.2.2.2.2.2.2.1 8 (by decide) (by decide) (by decide)]
          · dsimp only
            rw [l12, r29, c7.2.2 41 (by decide) (by decide) (by decide) (by decide) (by decide) (by decide), g82 41 (by decide) (by decide)]
            exact q4
          · dsimp only
            rw [fr 30 (by decide), ce.1, c7.1 103 (by decide) (by decide) (by decide) (by decide), e103]
            exact q6 i (by omega)
        · exact absurd e3 k3
      ·
        have n1' : μ 103 (d - 1) ≠ 1 := fun e => n1 (hb.trans e)
        have f' : ∀ q, q = 4 ∨ q = 5 ∨ q = 7 ∨ q = 17 ∨ q = 18 ∨ q = 20 ∨ q = 21 ∨ q = 24 ∨ q = 25 ∨ q = 26 ∨ q = 27 ∨ q = 30 → r5 q = r3.1 q := fun q hq => fr q (by omega) (by omega) (by omega)
        have fin : ∀ (μ' : zS) (lo' : List Nat), (∀ q, q ≠ 82 → q ≠ 94 → q ≠ 95 → q ≠ 102 → μ' q = μ q) → (∀ i, i ≠ 37 → i ≠ 41 → μ' 82 i = μ 82 i) → r5 29 12 = μ' 82 41 → Ch (μ' 102) lo' (μ' 82 37) → (μ' 103 (d - 1) = 3 → ∃ z, z < 24 ∧ μ' 104 (d - 1) = Int32.ofNat z ∧ 2 * z + 1 ∉ lo') → (∀ s, C7W d lo' μ' s → s 82 9 = 0 → s 103 (d - 1) = μ 103 (d - 1) → VX c len (d - 1) r5 s ∧ (d - 1 = 0 → WVP (c 2 - 1) (len (c 2 - 1)) r5 s ∧ ∃ lo, Ch (s 102) lo (s 82 37))) → zp (zb_M_closeBlock_177 N' μ' (Int32.ofNat (d - 1))) (fun s => OUT T a c ws r5 r3.2 s) := by
          intro μ' lo' m1 m2 m3 m4 m5 m6
          have sm1 : SM T a μ' := sm.of (m1 84 (by decide) (by decide) (by decide) (by decide)) fun i hi => m2 i (by omega) (by omega)
          have nm1 : NSM c ws nv wv μ' := nm.of (fun i hi => m2 i (by omega) (by omega)) (fun p _ => by rw [m1 86 (by decide) (by decide) (by decide) (by decide)]) (fun p _ => by rw [m1 85 (by decide) (by decide) (by decide) (by decide)])
          have e103 : μ' 103 = μ 103 := m1 103 (by decide) (by decide) (by decide) (by decide)
          refine zp_mono (zp_and (p_M_177 sm1 hk (by rw [m2 46 (by decide) (by decide)]; exact h46) ⟨hd, d8⟩) (p_M_177W (lo := lo') sm1 hk (by rw [m2 46 (by decide) (by decide)]; exact h46) ⟨hd, d8⟩ m4 m5)) fun s hs => ?_
          obtain ⟨hs, cw7⟩ := hs
          rcases hs with ⟨_, s1, c7⟩ | ⟨e3, e5, _⟩
          · have vr := m6 s cw7 s1.2.2.2 (by rw [c7.1 103 (by decide) (by decide) (by decide) (by decide), e103])
            have F : ∀ q, q ≠ 82 → q ≠ 94 → q ≠ 95 → q ≠ 102 → s q = μ q := fun q a b c d => by rw [c7.1 q a b c d, m1 q a b c d]
            refine Or.inr ⟨a + 1, nv, wv, len, d - 1, by omega, fun q => ⟨by rw [c7.2.1, q]; rfl, (vr.2 q).1, (vr.2 q).2, by rw [c7.2.2 39 (by decide) (by decide) (by decide) (by decide) (by decide) (by decide), m2 39 (by decide) (by decide)]; exact h39⟩, x1.of (f' 17 (by decide)) (f' 25 (by decide)) (f' 26 (by decide)) (f' 27 (by decide)) rfl rfl, s1, x2.of (fun s hs => by rw [f' 4 (by decide)]) (f' 18 (by decide)) (f' 20 (by decide)) (f' 21 (by decide)) rfl rfl, nm1.c7 (fun q a b c d _ _ _ _ => c7.1 q a b c d) c7.2.2, pk.dep hd (by omega) (fun q hq => by rw [f' q (by omega), x3.1 q (by omega)]) l1 (by rw [l2, r29]) ?_ (fun q hq => F q (by omega) (by omega) (by omega) (by omega)) (fun i hi => by rw [c7.2.2 i (by omega) (by omega) (by omega) (by omega) (by omega) (by omega), m2 i (by omega) (by omega)]) c7.2.1 (fun i hi => ?_), ?_, vr.1⟩
            · rw [c7.2.2 41 (by decide) (by decide) (by decide) (by decide) (by decide) (by decide)]; exact m3
            · rw [f' 30 (by decide), r30, F 103 (by decide) (by decide) (by decide) (by decide)]; exact q6 i (by omega)
            · have n : ∀ q, q = 85 ∨ q = 86 ∨ q = 87 ∨ q = 92 ∨ q = 93 → s q = μ q := fun q hq => F q (by omega) (by omega) (by omega) (by omega)
              exact la.of (by rw [f' 24 (by decide), x3.1 24 (by decide)]) (x6 23 (by decide)) (by rw [c7.2.2 19 (by decide) (by decide) (by decide) (by decide) (by decide) (by decide), m2 19 (by decide) (by decide)]) (n 87 (by decide)) (n 92 (by decide)) (n 93 (by decide)) (fun p _ => by rw [n 86 (by decide)]) (fun p _ => by rw [n 85 (by decide)])
          · rw [e103, ← hb] at e3
            rcases hno with h | h
            · exact absurd e3 h
            · exact absurd e5 h
        have n12 : ∀ μ' : zS, μ 103 (d - 1) ≠ 2 → μ' 82 41 = μ 82 41 → r5 29 12 = μ' 82 41 := by
          intro μ' n2 h
          rcases l12 with l | l
          · exact absurd (nn l.1) n2
          · rw [l.2, r29, h]; exact q4
        rcases lv1 with ⟨k, r', fn, fe⟩ | ⟨k, _⟩ | ⟨k, fe, f29⟩ | ⟨k, fe, f29, f10⟩ | ⟨k, fe, f29, f9, f10⟩ | ⟨⟨k0, k1, k2, k3, k4⟩, r', co, fe, f9, f10, f11⟩
        · rw [r30] at k
          have k' := nn k
          have d0 : d - 1 = 0 := (mk (d - 1) (by omega)).1.1.mp k'
          refine refOther n1' (fun μ' w ot n2 => ?_) fun e2 => absurd (e2.symm.trans k') (by decide)
          have em : μ' = μ := by
            rcases ot with ⟨_, h⟩ | ⟨h, _⟩ | ⟨h, _⟩
            · exact h
            · exact absurd (h.symm.trans k') (by decide)
            · exact absurd (h.symm.trans k') (by decide)
          rw [em]
          refine fin μ lo (fun _ _ _ _ _ => rfl) (fun _ _ _ => rfl) (n12 _ n2 rfl) cw.1.1 (fun q => absurd (q.symm.trans k') (by decide)) fun s c7 _ _ => ?_
          obtain ⟨g1, g2⟩ := c7.1 (by rw [k']; decide)
          obtain ⟨v1, v2⟩ := VX.cth vx3.1 hd len24 hL (fun s hs => by rw [x3.1 7 (by decide)]; exact pk.2.2.2.2.2.2 (c 2 - 1) s (by omega) hs) fn fe g1 g2
          exact ⟨by rw [d0]; exact v1, fun _ => ⟨v2, lo, by rw [g1 102 (by decide), g2]; exact cw.1.1⟩⟩
        · rw [r30] at k
          exact absurd k n1
        · rw [r30] at k
          have k' := nn k
          refine refOther n1' (fun μ' w ot n2 => absurd k' n2) fun e2 => ?_
          refine fin _ lo (fun q a _ _ _ => zu_other a) (fun i _ b => by rw [zx_up_same, zu_ne b]) ?_ (by rw [zu_other (q := 82) (p := 102) (by decide), zx_up_same, zu_ne (by decide)]; exact cw.1.1) (fun q => ?_) fun s c7 _ _ => ?_
          · rcases l12 with l | l
            · rw [l.2, zx_up_same, zu_eq]
            · exact absurd (hb.trans e2) l.1
          · rw [zu_other (by decide)] at q; exact absurd (q.symm.trans k') (by decide)
          · obtain ⟨g1, g2⟩ := c7.1 (by rw [zu_other (by decide), k']; decide)
            refine ⟨vx3.shr hd (Nat.sub_le _ _) (fun q hq => fe q (by omega)) ⟨f29 9 (by decide) (by decide), f29 10 (by decide) (by decide)⟩ (fun q hq => by rw [g1 q (by omega), zu_other (by omega)]) (by rw [g2, zx_up_same, zu_ne (by decide)]) ?_, fun q => absurd ((top0 q).symm.trans k') (by decide)⟩
            rw [f29 11 (by decide) (by decide), c7.2.2, zx_up_same, zu_ne (by decide)]
            exact (vx3.1.2 hd).2.2.2
        · rw [r30] at k
          have k' := nn k
          obtain ⟨z, zn, z31, z104, kz⟩ := (mk (d - 1) (by omega)).2.1 (Or.inl k')
          have oz := cw.2.2.2.1 (d - 1) (by omega) (Or.inl k') z (by omega) z104
          have nlo : 2 * z + 1 ∉ lo := fun q => by have := cw.1.2 _ q; omega
          refine refOther n1' (fun μ' w ot n2 => ?_) fun e2 => absurd (e2.symm.trans k') (by decide)
          have em : μ' = μ := by
            rcases ot with ⟨_, h⟩ | ⟨h, _⟩ | ⟨h, _⟩
            · exact h
            · exact absurd (h.symm.trans k') (by decide)
            · exact absurd (h.symm.trans k') (by decide)
          rw [em]
          refine fin μ lo (fun _ _ _ _ _ => rfl) (fun _ _ _ => rfl) (n12 _ n2 rfl) cw.1.1 (fun _ => ⟨z, by omega, z104, nlo⟩) fun s c7 s9 s3 => ?_
          rcases c7.2.1 k' z (by omega) z104 nlo with ⟨g1, g2, g3⟩ | ⟨_, _, ⟨g, _⟩, _⟩ | g
          · exact ⟨VX.cif vx3.1 cw hd hL k' zn z104 kz fe (f29 9 (by decide) (by decide)) (by rw [f10, x3.1 31 (by decide), z31]) (f29 11 (by decide) (by decide)) g1 g2 g3 c7.2.2, fun q => absurd ((top0 q).symm.trans k') (by decide)⟩
          · rw [g, k'] at s3; exact absurd s3 (by decide)
          · exact absurd s9 g
        · rw [r30] at k
          have k' := nn k
          refine refOther n1' (fun μ' w ot n2 => ?_) fun e2 => absurd (e2.symm.trans k') (by decide)
          have fj : FJ μ μ' (lw (d - 1)) lo (μ 105 (d - 1)) := by
            rcases ot with ⟨h, _⟩ | ⟨_, h⟩ | ⟨h, _⟩
            · exact absurd k' h.1
            · exact h
            · exact absurd (h.symm.trans k') (by decide)
          refine fin μ' (lw (d - 1) ++ lo) w.1 (fun i a _ => w.2 i a) (n12 _ n2 (w.2 41 (by decide))) fj.ch (fun q => ?_) fun s c7 _ _ => ?_
          · rw [fj.fr 103 (by decide) (by decide), k'] at q; exact absurd q (by decide)
          · obtain ⟨g1, g2⟩ := c7.1 (by rw [fj.fr 103 (by decide) (by decide), k']; decide)
            exact ⟨VX.cels vx3.1 cw hd k' fe f9 f10 (f29 11 (by decide) (by decide) (by decide)) (fun q a b => by rw [g1 q a, fj.fr q a b]) (by rw [g1 102 (by decide), g2]; exact fj.ch) (fun k hk => by rw [g1 102 (by decide)]; exact fj.ce k hk) (by rw [c7.2.2]; exact fj.ff 40 (by decide)), fun q => absurd ((top0 q).symm.trans k') (by decide)⟩
        · rw [r30] at k0 k1 k2 k3 k4
          have k' : μ 103 (d - 1) = 5 := by
            rcases (mk (d - 1) (by omega)).1.2 with h | h | h | h | h | h
            · exact absurd (hb.trans h) k0
            · exact absurd (hb.trans h) k1
            · exact absurd (hb.trans h) k2
            · exact absurd (hb.trans h) k3
            · exact absurd (hb.trans h) k4
            · exact h
          obtain ⟨z, zn, z31, z104, kz⟩ := (mk (d - 1) (by omega)).2.1 (Or.inr (Or.inr k'))
          refine refOther n1' (fun μ' w ot n2 => ?_) fun e2 => absurd (e2.symm.trans k') (by decide)
          rcases ot with ⟨h, _⟩ | ⟨h, _⟩ | ⟨_, h⟩
          · exact absurd k' h.2
          · exact absurd (h.symm.trans k') (by decide)
          obtain ⟨h1, h2, h3, h4, h5'⟩ := h z (by omega) z104
          refine fin μ' [2 * z + 1] w.1 (fun i a _ => w.2 i a) (n12 _ n2 (w.2 41 (by decide))) (by rw [h4.1]; exact Ch.one (by omega) h4.2.1) (fun q => ?_) fun s c7 _ _ => ?_
          · rw [w.1 103 (by decide) (by decide) (by decide) (by decide), k'] at q; exact absurd q (by decide)
          · obtain ⟨g1, g2⟩ := c7.1 (by rw [w.1 103 (by decide) (by decide) (by decide) (by decide), k']; decide)
            obtain ⟨c0, c9, c10, w9, w10⟩ := co
            have z3 : r3.1 31 (d - 1) = Int32.ofNat z := by rw [x3.1 31 (by decide)]; exact z31
            rw [z3] at w9 w10 f10
            exact ⟨VX.cwh vx3.1 cw hd len24 hL k' zn z104 kz (fun q a b c => by rw [fe q c, c0.1 q a b c]) (by rw [fe 9 (by decide)]; exact w9) (by rw [fe 10 (by decide)]; exact w10) f9 f10 f11 (fun q a b c e => by rw [g1 q a, h1 q a b c e]) (fun i => by rw [g1 94 (by decide)]; exact h2 i) (fun i => by rw [g1 95 (by decide)]; exact h3 i) ⟨by rw [g2]; exact h4.1, by rw [g1 102 (by decide)]; exact h4.2.1, fun k hk => by rw [g1 102 (by decide)]; exact h4.2.2 k hk⟩ (by rw [c7.2.2]; exact h5' 40 (by decide)), fun q => absurd ((top0 q).symm.trans k') (by decide)⟩
    refine zp_ite (fun z => lv (Or.inl z)) fun z => ?_
    rw [x1.k]
    refine zp_ite (fun y => lv (Or.inr y)) fun y => ?_
    have z3 : ρ 30 (d - 1) = 3 := Classical.not_not.mp z
    have y5 : T.1 (a + 1) = 305 := Classical.not_not.mp y
    have n1' : μ 103 (d - 1) ≠ 1 := by rw [← hb, z3]; decide
    refine zp_bind (zp_mono (X.tk sm.1 x1 x2 (by rw [y5]; decide)) ?_)
    rintro r7 ⟨y1, y2, y3, y4, y5', y6⟩
    have tte : zp (zf_Weaver_turnToElse r7.1) (fun r => (∀ q, q ≠ 29 → q ≠ 30 → q ≠ 32 → q ≠ 33 → r q = r7.1 q) ∧ (∀ i, i ≠ 9 → i ≠ 10 → r 29 i = r7.1 29 i) ∧ r 30 (d - 1) = 4 ∧ (∀ j, j ≠ d - 1 → r 30 j = r7.1 30 j) ∧ (r 32 (d - 1) = r7.1 29 9 ∧ r 33 (d - 1) = r7.1 29 10) ∧ (∀ j, j ≠ d - 1 → r 32 j = r7.1 32 j ∧ r 33 j = r7.1 33 j) ∧ r 29 9 = 0 ∧ r 29 10 = zJ_shl 1 (r7.1 31 (d - 1))) := by
      unfold zf_Weaver_turnToElse
      have e6 : r7.1 29 6 = Int32.ofNat d := by rw [y3.1 29 (by decide), r29]; exact h6
      rw [e6, zo_pred hd (by omega), zo_n (by omega)]
      refine zp_ite (fun q => ?_) fun _ => zp_ite (fun q => ?_) fun _ => zp_chk fun _ => zp_chk fun _ => zp_chk fun _ => zp_chk fun _ => zp_some ⟨fun q a b c d => ?_, fun i a b => ?_, ?_, fun j hj => ?_, ⟨?_, ?_⟩, fun j hj => ⟨?_, ?_⟩, ?_, ?_⟩
      · have := (zo_le (k := d) (j := 0) (by omega) (by omega)).mp q
        omega
      · have := (zo_lt (k := 8) (j := d) (by omega) (by omega)).mp q
        omega
      · rw [zu_other a, zu_other a, zu_other d, zu_other c, zu_other b]
      · rw [zx_up_same, zu_ne b, zx_up_same, zu_ne a]
        iterate 3 rw [zu_other (by decide)]
      · iterate 4 rw [zu_other (by decide)]
        rw [zx_up_same, zu_eq]
      · iterate 4 rw [zu_other (by decide)]
        rw [zx_up_same, zu_ne hj]
      · iterate 3 rw [zu_other (by decide)]
        rw [zx_up_same, zu_eq]
      · iterate 2 rw [zu_other (by decide)]
        rw [zx_up_same, zu_eq]
      · iterate 3 rw [zu_other (by decide)]
        rw [zx_up_same, zu_ne hj, zu_other (by decide)]
      · iterate 2 rw [zu_other (by decide)]
        rw [zx_up_same, zu_ne hj, zu_other (by decide), zu_other (by decide)]
      · rw [zx_up_same, zu_ne (by decide), zx_up_same, zu_eq]
      · rw [zx_up_same, zu_eq]
    refine zp_bind (zp_mono tte ?_)
    rintro r8 ⟨t1, t2, t3, t5, t32, t33, t9, t10⟩
    have t' : ∀ q, q = 4 ∨ q = 5 ∨ q = 7 ∨ q = 17 ∨ q = 18 ∨ q = 20 ∨ q = 21 ∨ q = 24 ∨ q = 25 ∨ q = 26 ∨ q = 27 → r8 q = r7.1 q := fun q hq => t1 q (by omega) (by omega) (by omega) (by omega)
    have sx8 : SX T (a + 1 + 1) r8 r7.2 := y1.of (t' 17 (by decide)) (t' 25 (by decide)) (t' 26 (by decide)) (t' 27 (by decide)) rfl rfl
    have ns8 : NNX c ws nv wv r8 r7.2 := y2.of (fun s _ => by rw [t' 4 (by decide)]) (t' 18 (by decide)) (t' 20 (by decide)) (t' 21 (by decide)) rfl rfl
    refine zp_bind (zp_mono (p_take sm.1 sx8 ns8 (x := 123) (by decide)) fun r9 h9 => zp_some ?_)
    have n2' : μ 103 (d - 1) ≠ 2 := by rw [← hb, z3]; decide
    have k' := nn z3
    obtain ⟨z, zn, z31, z104, kz⟩ := (mk (d - 1) (by omega)).2.1 (Or.inl k')
    have oz := cw.2.2.2.1 (d - 1) (by omega) (Or.inl k') z (by omega) z104
    have nlo : 2 * z + 1 ∉ lo := fun q => by have := cw.1.2 _ q; omega
    have d1 : 1 < d := by
      by_cases q : d - 1 = 0
      · exact absurd ((top0 q).symm.trans k') (by decide)
      · omega
    refine refOther n1' (fun μ' w ot _ => ?_) fun e => absurd e n2'
    have em : μ' = μ := by
      rcases ot with ⟨_, h⟩ | ⟨h, _⟩ | ⟨h, _⟩
      · exact h
      · exact absurd (h.symm.trans k') (by decide)
      · exact absurd (h.symm.trans k') (by decide)
    have sm1 : SM T a μ' := sm.wy w
    have nm1 : NSM c ws nv wv μ' := nm.of (fun i hi => w.2 i (by omega)) (fun p _ => by rw [w.1 86 (by decide) (by decide) (by decide) (by decide)]) (fun p _ => by rw [w.1 85 (by decide) (by decide) (by decide) (by decide)])
    have e103 : μ' 103 = μ 103 := w.1 103 (by decide) (by decide) (by decide) (by decide)
    refine zp_mono (zp_and (p_M_177 sm1 hk (by rw [w.2 46 (by decide)]; exact h46) ⟨hd, d8⟩) (p_M_177W (lo := lo) sm1 hk (by rw [w.2 46 (by decide)]; exact h46) ⟨hd, d8⟩ (by rw [em]; exact cw.1.1) (fun _ => ⟨z, by omega, by rw [em]; exact z104, nlo⟩))) fun s hs => ?_
    obtain ⟨hs, cw7⟩ := hs
    rw [em] at cw7
    rcases hs with ⟨hn, _⟩ | ⟨_, _, ⟨k3, fl⟩ | ⟨k3, s1, c7⟩⟩
    · rcases hn with h | h
      · exact absurd (by rw [e103, ← hb]; exact z3) h
      · exact absurd y5 h
    · rcases h9 with ⟨_, _, xf, _⟩ | ⟨_, ek, _⟩
      · exact Or.inl ⟨_, xf, fl⟩
      · exact absurd ek k3
    · rcases h9 with ⟨_, nk, _⟩ | ⟨_, ek, sx9, ns9, xa, g9, _⟩
      · exact absurd k3 nk
      · have F : ∀ q, q ≠ 82 → q ≠ 94 → q ≠ 95 → q ≠ 102 → q ≠ 103 → q ≠ 104 → q ≠ 105 → q ≠ 106 → s q = μ q := fun q a b c d e f g h => by rw [c7.1 q a b c d e f g h, w.1 q a b c d]
        have G : ∀ i, i ≠ 5 → i ≠ 6 → i ≠ 7 → i ≠ 8 → i ≠ 37 → i ≠ 46 → s 82 i = μ 82 i := fun i a b c d e f => by rw [c7.2.2.1 i a b c d e f, w.2 i e]
        have X : ∀ q, q = 4 ∨ q = 5 ∨ q = 7 ∨ q = 24 → r9.2.1 q = ρ q := fun q hq => by rw [xa.1 q (by omega), t' q (by omega), y3.1 q (by omega), x3.1 q (by omega)]
        have X29 : ∀ i, i = 6 ∨ i = 8 ∨ i = 12 → r9.2.1 29 i = ρ 29 i := fun i hi => by rw [xa.1 29 (by decide), t2 i (by omega) (by omega), y3.1 29 (by decide), r29]
        refine Or.inr ⟨a + 2 + 1, nv, wv, len, d, by omega, fun q => by omega, sx9, s1, ns9, nm.c7 F G, pk.dep hd d8 (fun q hq => X q (by omega)) (by rw [X29 6 (by decide)]; exact h6) (X29 8 (by decide)) ?_ (fun q hq => F q (by omega) (by omega) (by omega) (by omega) (by omega) (by omega) (by omega) (by omega)) (fun i hi => G i (by omega) (by omega) (by omega) (by omega) (by omega) (by omega)) c7.2.1 (fun i hi => ?_), la.c7 (X 24 (by decide)) ?_ F G, ?_⟩
        · dsimp only
          rw [X29 12 (by decide), G 41 (by decide) (by decide) (by decide) (by decide) (by decide) (by decide)]
          exact q4
        · dsimp only
          rw [xa.1 30 (by decide)]
          by_cases e : i = d - 1
          · rw [e, t3, c7.2.2.2.1]
          · rw [t5 i e, y3.1 30 (by decide), r30, c7.2.2.2.2 i e, e103]; exact q6 i hi
        · dsimp only
          rw [g9 23 (by decide), y6 23 (by decide), x6 23 (by decide)]
        · have R7 : ∀ q, q ≠ 25 → r7.1 q = ρ q := fun q hq => by rw [y3.1 q hq, x3.1 q hq]
          have vx7 : VX c len d r7.1 μ := vx.of (fun q hq => R7 q (by omega)) (fun i _ => by rw [R7 29 (by decide)]) (fun _ _ => rfl) ⟨rfl, rfl⟩
          have z7 : r7.1 31 (d - 1) = Int32.ofNat z := by rw [R7 31 (by decide)]; exact z31
          rcases cw7.2.1 k' z (by omega) z104 nlo with ⟨g1, _⟩ | ⟨g1, g2, g3, g4⟩ | g
          · have := c7.2.2.2.1
            rw [g1 103 (by decide) (by decide), k'] at this
            exact absurd this (by decide)
          · exact VX.ctn vx7.1 cw d1 hL k' zn z104 z7 kz (fun q hq => by rw [xa.1 q (by omega), t1 q (by omega) (by omega) (by omega) (by omega)]) (by rw [xa.1 32 (by decide), xa.1 33 (by decide)]; exact t32) (fun i hi => by rw [xa.1 32 (by decide), xa.1 33 (by decide)]; exact t33 i hi) (by rw [xa.1 29 (by decide)]; exact t9) (by rw [xa.1 29 (by decide), t10, z7]) (by rw [xa.1 29 (by decide), t2 11 (by decide) (by decide)]) g1 g2 g3 g4 cw7.2.2
          · exact absurd s1.2.2.2 g
  unfold zf_Reader_closeBlock
  refine zp_bind (zp_mono inn fun r1 h1 => ?_)
  rw [h1]
  refine zp_ite (fun z => main fun e => absurd e z) fun z => zp_bind (zp_mono (p_X_room sx h8 t4 h5 hL).2 fun r10 h10 => ?_)
  have z1 : ρ 30 (d - 1) = 1 := Classical.not_not.mp z
  rcases h10 with ⟨l, e, fl⟩ | ⟨l, e⟩
  · exact zp_ite (fun q => absurd e q) fun _ => zp_some (refLock (hb ▸ z1) (fun _ s hs => Or.inl ⟨_, fl, hs⟩) fun l' => by omega)
  · rw [e]
    exact zp_ite (fun _ => main fun _ => l) fun q => absurd (show ¬ (1 : Int32) = 0 by decide) q
