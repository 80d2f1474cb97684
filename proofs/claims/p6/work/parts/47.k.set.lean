-- both answer alike
set_option maxRecDepth 2000
def CT (T : TS) (c : Nat → Nat) (ws : Nat → Nat → Int64) (len : Nat → Nat) (d t L : Nat) (ρ : zS) (τ : zT) (μ : zS) : Prop :=
  PKW c len d ρ μ ∧ LAT c ws len ρ τ μ ∧ 0 < d ∧ t = c 2 - 1 ∧ L = len t ∧ L < 24 ∧ t < 4 ∧ ρ 29 8 = Int32.ofNat t ∧ ρ 5 t = Int32.ofNat L ∧ TB (μ 84) (μ 82 4) T.1 T.2.1 T.2.2.1 T.2.2.2.1 T.2.2.2.2
theorem p_fin {T : TS} {a e t L N N' : Nat} {c : Nat → Nat} {ws : Nat → Nat → Int64} {nv : Nat} {wv : Nat → Int64} {len : Nat → Nat} {d : Nat} {ρ ρ1 : zS} {τ τ1 : zT} {μ : zS} {k x y1 y2 y3 y4 : Int32} (ct : CT T c ws len d t L ρ τ μ) (he : a < e) (f : RXF ρ ρ1) (g : RTF τ τ1) (sx : SX T e ρ1 τ1) (ns : NNX c ws nv wv ρ1 τ1) (nk : ¬ k = 10 ∧ ¬ k = 11) : zp ((zf_Weaver_emit N ρ1 k x).bind fun r3 => (zf_Weaver_work r3 y1 y2 y3 y4).bind fun r4 => (zf_Reader_expect r4 τ1 59).bind fun r5 => some (r5.2.1, r5.2.2)) (fun r => ∀ μ1, SM T e μ1 → NSM c ws nv wv μ1 → MEx t L k μ μ1 → zp (zf_M_take N' μ1 59) (fun s => OUT T a c ws r.1 r.2 s)) := by
  obtain ⟨pk, la, hd, ht, hL, hl, t4, h8, h5, tb⟩ := ct
  have e29 : ρ1 29 = ρ 29 := f.1 29 (by decide) (by decide) (by decide)
  have e5 : ρ1 5 = ρ 5 := f.1 5 (by decide) (by decide) (by decide)
  refine zp_bind (zp_mono (p_X_emit (t := t) (L := L) (by rw [e29]; exact h8) t4 (by rw [e5]; exact h5) hl) fun r7 em => zp_bind (zp_mono p_X_work fun r8 wk => ?_))
  have sx8 : SX T e r8 τ1 := (sx.em em).of (wk 17 (by decide) (by decide) (by decide) (by decide)) (wk 25 (by decide) (by decide) (by decide) (by decide)) (wk 26 (by decide) (by decide) (by decide) (by decide)) (wk 27 (by decide) (by decide) (by decide) (by decide)) rfl rfl
  have ns8 : NNX c ws nv wv r8 τ1 := (ns.em em).of (fun s _ => congrFun (wk 4 (by decide) (by decide) (by decide) (by decide)) s) (wk 18 (by decide) (by decide) (by decide) (by decide)) (wk 20 (by decide) (by decide) (by decide) (by decide)) (wk 21 (by decide) (by decide) (by decide) (by decide)) rfl rfl
  have ce : CEx t L k ρ r8 := (CEx.of f em).post fun q hq => wk q (by omega) (by omega) (by omega) (by omega)
  refine zp_bind (zp_mono (p_semi tb sx8 ns8) fun r10 h10 => zp_some fun μ1 sm nm me => ?_)
  exact h10 N' μ1 a _ d (by omega) hd sm nm (pk.step hd ht hL hl ns.1.c2 ce me) (la.step pk ht hL ce me (g 23 (by decide) (by decide)) nk)
theorem p_230 {N' : Nat} {μ : zS} {Q : zS → Prop} (h : zp (zf_M_take N' μ 59) Q) : zp (zb_M_assign_230 N' μ) Q := by
  unfold zb_M_assign_230
  exact zp_bind (zp_mono h fun s hs => zp_some hs)
theorem p_write {T : TS} {a e t L N N' : Nat} {c : Nat → Nat} {ws : Nat → Nat → Int64} {nv : Nat} {wv : Nat → Int64} {len : Nat → Nat} {d : Nat} {ρ ρ1 : zS} {τ τ1 : zT} {μ : zS} {x : Int32} (ct : CT T c ws len d t L ρ τ μ) (he : a < e) (f : RXF ρ ρ1) (g : RTF τ τ1) (sx : SX T e ρ1 τ1) (ns : NNX c ws nv wv ρ1 τ1) : zp (zf_Reader_readWrite N ρ1 τ1 x) (fun r => ∀ μ1 v1 v4, v1 ≠ -1 → SM T e μ1 → NSM c ws nv wv μ1 → MEx t L 1 μ μ1 → zp (zb_M_assign_161 N' μ1 v1 v4) (fun s => OUT T a c ws r.1 r.2 s)) := by
  have tb := ct.2.2.2.2.2.2.2.2.2
  unfold zf_Reader_readWrite
  refine zp_bind (zp_mono (p_setv tb sx ns N') ?_)
  rintro r1 (⟨e1, fl, m⟩ | ⟨ne, nv1, wv1, sx1, ns1, f1, g1, m⟩)
  · refine zp_ite (fun _ => zp_some fun μ1 v1 v4 hv sm nm me => ?_) fun q => absurd e1 q
    unfold zb_M_assign_161
    exact zp_bind (zp_mono (m μ1 sm nm) fun s hs => zp_chk fun _ => zp_ite (fun _ => p_230 (zp_mono (p_F_take (hs.up (by decide))) fun s' hs' => Or.inl ⟨_, fl, hs'⟩)) fun q => absurd hv q)
  · refine zp_ite (fun q => absurd q ne) fun _ => zp_mono (p_fin (a := a) (N' := N') ct (by omega) (f.tr f1) (g.tr g1) sx1 ns1 (by decide)) fun r hr μ1 v1 v4 hv sm nm me => ?_
    unfold zb_M_assign_161
    refine zp_bind (zp_mono (m μ1 sm nm) ?_)
    rintro s ⟨s1, s2, s3, s4⟩
    exact zp_chk fun _ => zp_ite (fun _ => p_230 (hr _ (s2.up (by decide)) (s3.up (by decide)) ((me.rd s4).up (by decide)))) fun q => absurd hv q
theorem p_sum {T : TS} {a e t L N N' : Nat} {c : Nat → Nat} {ws : Nat → Nat → Int64} {nv : Nat} {wv : Nat → Int64} {len : Nat → Nat} {d : Nat} {ρ ρ1 : zS} {τ τ1 : zT} {μ : zS} {x : Int32} (ct : CT T c ws len d t L ρ τ μ) (he : a < e) (f : RXF ρ ρ1) (g : RTF τ τ1) (sx : SX T e ρ1 τ1) (ns : NNX c ws nv wv ρ1 τ1) : zp (zf_Reader_readSum N ρ1 τ1 x) (fun r => ∀ μ1 v4, SM T e μ1 → NSM c ws nv wv μ1 → MEx t L 2 μ μ1 → zp (zb_M_assign_161 N' μ1 (-1) v4) (fun s => OUT T a c ws r.1 r.2 s)) := by
  have tb := ct.2.2.2.2.2.2.2.2.2
  unfold zf_Reader_readSum
  refine zp_bind (zp_mono (p_setv tb sx ns N') ?_)
  rintro r1 (⟨e1, fl, m⟩ | ⟨ne, nv1, wv1, sx1, ns1, f1, g1, m⟩)
  · refine zp_ite (fun q => absurd e1 q) fun _ => zp_some fun μ1 v4 sm nm me => ?_
    unfold zb_M_assign_161
    exact zp_bind (zp_mono (m μ1 sm nm) fun s hs => zp_chk fun _ => zp_ite (fun q => absurd rfl q) fun _ => zp_ite (fun _ => p_230 (zp_mono (p_F_take (hs.up (by decide))) fun s' hs' => Or.inl ⟨_, fl, hs'⟩)) fun q => absurd (Classical.not_not.mp q) hs.1)
  · refine zp_ite (fun _ => ?_) fun q => absurd ne q
    rw [sx1.k]
    have ref : ∀ {Q : zS → Prop} (μ1 : zS) (v4 : Int32), SM T e μ1 → NSM c ws nv wv μ1 → MEx t L 2 μ μ1 → ((¬ T.1 (e + 1) = 43 ∧ ¬ T.1 (e + 1) = 45) → ∀ μ2, SM T (e + 1) μ2 → NSM c ws nv1 wv1 μ2 → MEx t L 2 μ μ2 → zp (zf_M_take N' μ2 59) Q) → ((T.1 (e + 1) = 43 ∨ T.1 (e + 1) = 45) → ∀ μ2, SM T (e + 1) μ2 → NSM c ws nv1 wv1 μ2 → MEx t L 2 μ μ2 → zp (zb_M_assign_203 N' μ2 v4) Q) → zp (zb_M_assign_161 N' μ1 (-1) v4) Q := by
      intro Q μ1 v4 sm nm me k1 k2
      unfold zb_M_assign_161
      refine zp_bind (zp_mono (m μ1 sm nm) ?_)
      rintro s ⟨s1, s2, s3, s4⟩
      have S := s2.up (q := 99) (i := v4.toNatClampNeg) (x := s.1) (by decide)
      have NM := s3.up (q := 99) (i := v4.toNatClampNeg) (x := s.1) (by decide)
      have ME := (me.rd s4).up (q := 99) (i := v4.toNatClampNeg) (x := s.1) (by decide)
      refine zp_chk fun _ => zp_ite (fun q => absurd rfl q) fun _ => zp_ite (fun q => absurd s2.2.2.2 q) fun _ => zp_bind (zp_mono (p_M_isSign S.d (c := 43) (by decide)) fun u hu => zp_ite (fun z => ?_) fun z => zp_bind (zp_mono (p_M_isSign S.d (c := 45) (by decide)) fun w hw => zp_ite (fun y => ?_) fun y => ?_))
      · rcases hu with hu | hu
        · exact absurd hu.1 z
        · exact k2 (Or.inl hu.2) _ S NM ME
      · rcases hu with hu | hu
        · rcases hw with hw | hw
          · exact p_230 (k1 ⟨hu.2, hw.2⟩ _ S NM ME)
          · rw [hw.1] at y; exact absurd y (by decide)
        · exact absurd (by rw [hu.1]; decide) z
      · rcases hw with hw | hw
        · exact absurd hw.1 y
        · exact k2 (Or.inr hw.2) _ S NM ME
    have two : (T.1 (e + 1) = 43 ∨ T.1 (e + 1) = 45) → zp (zb_Reader_readSum_40 N r1.2.1 r1.2.2 x r1.1) (fun r => ∀ μ1 v4, SM T e μ1 → NSM c ws nv wv μ1 → MEx t L 2 μ μ1 → zp (zb_M_assign_161 N' μ1 (-1) v4) (fun s => OUT T a c ws r.1 r.2 s)) := by
      intro hk
      have kk : ¬ T.1 (e + 1) = 0 ∧ ¬ T.1 (e + 1) = 1 := by rcases hk with q | q <;> rw [q] <;> decide
      have nn : ¬ (¬ T.1 (e + 1) = 43 ∧ ¬ T.1 (e + 1) = 45) := fun q => hk.elim q.1 q.2
      unfold zb_Reader_readSum_40
      refine zp_bind (zp_mono (X.tk tb sx1 ns1 kk) ?_)
      rintro r4 ⟨x1, x2, x3, x4, x5, x6⟩
      refine zp_bind (zp_mono (p_setv tb x1 x2 N') ?_)
      unfold zb_Reader_readSum_61
      rintro r5 (⟨e5, fl, m5⟩ | ⟨ne5, nv2, wv2, sx2, ns2, f2, g2, m5⟩)
      · refine zp_ite (fun _ => zp_some fun μ1 v4 sm nm me => ref μ1 v4 sm nm me (fun q => absurd q nn) fun _ μ2 sm2 nm2 me2 => ?_) fun q => absurd e5 q
        unfold zb_M_assign_203
        refine zp_chk fun _ => zp_bind (zp_mono (M.tk (sm2.up (by decide)) (nm2.up (by decide)) kk) ?_)
        rintro ν ⟨n1, n2, n3, n4⟩
        exact zp_bind (zp_mono (m5 ν n1 n2) fun s hs => zp_chk fun _ => p_230 (zp_mono (p_F_take (hs.up (by decide))) fun s' hs' => Or.inl ⟨_, fl, hs'⟩))
      · refine zp_ite (fun q => absurd q ne5) fun _ => zp_mono (p_fin (a := a) (N' := N') ct (by omega) (((f.tr f1).tr x4).tr f2) (((g.tr g1).tr x5).tr g2) sx2 ns2 (by decide)) fun r hr μ1 v4 sm nm me => ref μ1 v4 sm nm me (fun q => absurd q nn) fun _ μ2 sm2 nm2 me2 => ?_
        unfold zb_M_assign_203
        refine zp_chk fun _ => zp_bind (zp_mono (M.tk (sm2.up (by decide)) (nm2.up (by decide)) kk) ?_)
        rintro ν ⟨n1, n2, n3, n4⟩
        refine zp_bind (zp_mono (m5 ν n1 n2) ?_)
        rintro s ⟨s1, s2, s3, s4⟩
        exact zp_chk fun _ => p_230 (hr _ (s2.up (by decide)) (s3.up (by decide)) (((((me2.up (by decide)).rd n4).rd s4)).up (by decide)))
    refine zp_ite (fun q => two (Or.inl q)) fun q1 => zp_ite (fun q2 => ?_) fun q2 => two (Or.inr (Classical.not_not.mp q2))
    unfold zb_Reader_readSum_61
    refine zp_ite (fun q => absurd q (by decide)) fun _ => zp_mono (p_fin (a := a) (N' := N') ct (by omega) (f.tr f1) (g.tr g1) sx1 ns1 (by decide)) fun r hr μ1 v4 sm nm me => ref μ1 v4 sm nm me (fun _ μ2 sm2 nm2 me2 => hr _ sm2 nm2 me2) fun q => absurd q (fun q => q.elim q1 q2)
theorem p_asg {T : TS} {a N N' : Nat} {c : Nat → Nat} {ws : Nat → Nat → Int64} {nv : Nat} {wv : Nat → Int64} {len : Nat → Nat} {d : Nat} {ρ ρ0 : zS} {τ τ0 : zT} {μ μ0 : zS} {v1 v2 s0 xx kd : Int32} (pk : PKW c len d ρ μ) (la : LAT c ws len ρ τ μ) (hd : 0 < d) (c4 : c 2 ≤ 4) (f : RXF ρ ρ0) (g : RTF τ τ0) (sx : SX T a ρ0 τ0) (ns : NNX c ws nv wv ρ0 τ0) (fm : RMF μ μ0) (sm : SM T a μ0) (nm : NSM c ws nv wv μ0) (hk : T.1 a = 3) (hs : s0 ≠ -1) (hv : (v2 ≠ 0 ∧ v1 ≠ -1 ∧ kd = 1) ∨ (v2 = 0 ∧ v1 = -1 ∧ kd = 2)) : zp (zb_Reader_readSetting_78 N ρ0 τ0 v2 s0) (fun r => zp (zb_M_assign_56 N' μ0 v1 xx kd) (fun s => OUT T a c ws r.1 r.2 s)) := by
  have kk : ¬ T.1 a = 0 ∧ ¬ T.1 a = 1 := by rw [hk]; decide
  obtain ⟨q1, q2, q3, _⟩ := pk.2.2.2.2.2.1 hd
  obtain ⟨a1, a2, a3⟩ := pk.1 (c 2 - 1) (by omega)
  have t4 : c 2 - 1 < 4 := by omega
  have h8 : ρ0 29 8 = Int32.ofNat (c 2 - 1) := by rw [f.1 29 (by decide) (by decide) (by decide)]; exact q2
  have h5 : ρ0 5 (c 2 - 1) = Int32.ofNat (len (c 2 - 1)) := by rw [f.1 5 (by decide) (by decide) (by decide)]; exact a2
  have h39 : μ0 82 39 = Int32.ofNat (c 2 - 1) := by rw [fm.2.1 39 (by decide) (by decide) (by decide) (by decide) (by decide) (by decide) (by decide) (by decide)]; exact q3
  have h90 : μ0 90 (c 2 - 1) = Int32.ofNat (len (c 2 - 1)) := by rw [fm.1 90 (by decide) (by decide) (by decide)]; exact a3
  have pk0 := pk.rd f fm
  have la0 := la.rd f g fm
  unfold zb_Reader_readSetting_78
  refine zp_ite (fun q => absurd q hs) fun _ => zp_bind (zp_mono (p_X_room sx h8 t4 h5 a1).1 fun r10 h10 => ?_)
  rcases h10 with ⟨l, e⟩ | ⟨l, e⟩
  · refine zp_ite (fun q => absurd e q) fun _ => ?_
    unfold zb_Reader_readSetting_94
    refine zp_bind (zp_mono (p_X_fail (by decide)) fun r hr => zp_some ?_)
    rw [sx.p] at hr
    unfold zb_M_assign_56
    refine zp_bind (zp_mono (p_M_addStep h39 t4 h90 a1 sm.2.2.2) fun s hs' => ?_)
    rcases hs' with ⟨_, _, fl⟩ | ⟨l', _⟩
    · rw [sm.p] at fl
      exact zp_ite (fun q => absurd q fl.1) fun _ => zp_some (Or.inl ⟨_, hr.2, fl⟩)
    · omega
  · refine zp_ite (fun _ => ?_) fun q => absurd (by rw [e]; decide) q
    have ct : CT T c ws len d (c 2 - 1) (len (c 2 - 1)) ρ0 τ0 μ0 := ⟨pk0, la0, hd, rfl, rfl, l, t4, h8, h5, sm.1⟩
    refine zp_bind (zp_mono (X.tk sm.1 sx ns kk) ?_)
    rintro r12 ⟨x1, x2, x3, x4, x5, x6⟩
    have ref : ∀ {Q : zS → Prop}, (∀ r6 r8 : zS, SM T (a + 1) r8 → NSM c ws nv wv r8 → MEx (c 2 - 1) (len (c 2 - 1)) kd μ0 r8 → r6 82 39 = Int32.ofNat (c 2 - 1) → zp ((zf_M_take N' r8 61).bind fun r9 =>
    if (r9 82 9) = 0 then
      if 0 ≤ ((24 * (r6 82 39)) + Int32.ofNat (len (c 2 - 1))) ∧ ((24 * (r6 82 39)) + Int32.ofNat (len (c 2 - 1))) < 96 then
        if 0 ≤ ((24 * (r6 82 39)) + Int32.ofNat (len (c 2 - 1))) ∧ ((24 * (r6 82 39)) + Int32.ofNat (len (c 2 - 1))) < 96 then
          if ¬ v1 = (-1) then
            zb_M_assign_161 N' (zx_up (zx_up r9 98 ((24 * (r6 82 39)) + Int32.ofNat (len (c 2 - 1))).toNatClampNeg xx) 101 ((24 * (r6 82 39)) + Int32.ofNat (len (c 2 - 1))).toNatClampNeg 0) v1 ((24 * (r6 82 39)) + Int32.ofNat (len (c 2 - 1)))
          else
            if ¬ (r9 82 7) = 2 then
              zb_M_assign_161 N' (zx_up (zx_up r9 98 ((24 * (r6 82 39)) + Int32.ofNat (len (c 2 - 1))).toNatClampNeg xx) 101 ((24 * (r6 82 39)) + Int32.ofNat (len (c 2 - 1))).toNatClampNeg 0) v1 ((24 * (r6 82 39)) + Int32.ofNat (len (c 2 - 1)))
            else
              (zf_M_fieldHere N' (zx_up (zx_up r9 98 ((24 * (r6 82 39)) + Int32.ofNat (len (c 2 - 1))).toNatClampNeg xx) 101 ((24 * (r6 82 39)) + Int32.ofNat (len (c 2 - 1))).toNatClampNeg 0)).bind fun r28 =>
              if r28 = (-1) then
                zb_M_assign_161 N' (zx_up (zx_up r9 98 ((24 * (r6 82 39)) + Int32.ofNat (len (c 2 - 1))).toNatClampNeg xx) 101 ((24 * (r6 82 39)) + Int32.ofNat (len (c 2 - 1))).toNatClampNeg 0) v1 ((24 * (r6 82 39)) + Int32.ofNat (len (c 2 - 1)))
              else
                if 0 ≤ ((24 * (r6 82 39)) + Int32.ofNat (len (c 2 - 1))) ∧ ((24 * (r6 82 39)) + Int32.ofNat (len (c 2 - 1))) < 96 then
                  (zf_M_fieldHere N' (zx_up (zx_up (zx_up r9 98 ((24 * (r6 82 39)) + Int32.ofNat (len (c 2 - 1))).toNatClampNeg xx) 101 ((24 * (r6 82 39)) + Int32.ofNat (len (c 2 - 1))).toNatClampNeg 0) 92 ((24 * (r6 82 39)) + Int32.ofNat (len (c 2 - 1))).toNatClampNeg 0)).bind fun r31 =>
                  if 0 ≤ ((24 * (r6 82 39)) + Int32.ofNat (len (c 2 - 1))) ∧ ((24 * (r6 82 39)) + Int32.ofNat (len (c 2 - 1))) < 96 then
                    (zf_M_next N' (zx_up (zx_up (zx_up (zx_up r9 98 ((24 * (r6 82 39)) + Int32.ofNat (len (c 2 - 1))).toNatClampNeg xx) 101 ((24 * (r6 82 39)) + Int32.ofNat (len (c 2 - 1))).toNatClampNeg 0) 92 ((24 * (r6 82 39)) + Int32.ofNat (len (c 2 - 1))).toNatClampNeg 0) 93 ((24 * (r6 82 39)) + Int32.ofNat (len (c 2 - 1))).toNatClampNeg r31)).bind fun r33 =>
                    zb_M_assign_230 N' r33
                  else none
                else none
        else none
      else none
    else
      some (r9)) Q) → zp (zb_M_assign_56 N' μ0 v1 xx kd) Q := by
      intro Q h
      unfold zb_M_assign_56
      refine zp_bind (zp_mono (p_M_addStep h39 t4 h90 a1 sm.2.2.2) fun s hs' => ?_)
      rcases hs' with ⟨l', _⟩ | ⟨_, e1, as⟩
      · omega
      · have gg : ∀ q, q = 84 ∨ q = 85 ∨ q = 86 → s.2 q = μ0 q := fun q hq => as.1 q (by omega) (by omega) (by omega) (by omega) (by omega) (by omega) (by omega) (by omega) (by omega)
        have sm1 : SM T a s.2 := sm.of (gg 84 (by decide)) fun i hi => as.2.1 i (by omega)
        have nm1 : NSM c ws nv wv s.2 := nm.of (fun i hi => as.2.1 i (by omega)) (fun p _ => by rw [gg 86 (by decide)]) (fun p _ => by rw [gg 85 (by decide)])
        refine zp_ite (fun _ => zp_bind (zp_mono (M.tk sm1 nm1 kk) ?_)) fun q => absurd sm1.2.2.2 q
        rintro ν ⟨n1, n2, n3, n4⟩
        rw [e1]
        exact h s.2 ν n1 n2 ((MEx.of as).rd n4) (by rw [as.2.1 39 (by decide)]; exact h39)
    refine zp_bind (zp_mono (p_take sm.1 x1 x2 (x := 61) (by decide)) fun r13 h13 => ?_)
    rcases h13 with ⟨e0, nk, fl, m1⟩ | ⟨e1, ek, sx', ns', xa, g', m1⟩
    · refine zp_ite (fun q => absurd e0 q) fun _ => zp_some (ref fun r6 r8 sm8 nm8 me e39 => zp_bind (zp_mono (m1 N' r8 sm8) fun s hs' => zp_ite (fun q => absurd q hs'.1) fun _ => zp_some (Or.inl ⟨_, fl, hs'⟩)))
    · refine zp_ite (fun _ => ?_) fun q => absurd (by rw [e1]; decide) q
      rw [sx'.k, sx'.w]
      have F := x4.tr xa.xf
      have G := x5.tr (gRTF g')
      have S : ∀ {r8 r9 : zS} {i : Nat} {x y : Int32}, SM T (a + 1 + 1) r9 → NSM c ws nv wv r8 → NX0 r8 r9 → MEx (c 2 - 1) (len (c 2 - 1)) kd μ0 r8 → SM T (a + 1 + 1) (zx_up (zx_up r9 98 i x) 101 i y) ∧ NSM c ws nv wv (zx_up (zx_up r9 98 i x) 101 i y) ∧ MEx (c 2 - 1) (len (c 2 - 1)) kd μ0 (zx_up (zx_up r9 98 i x) 101 i y) := fun a1 a2 a3 a4 => ⟨(a1.up (by decide)).up (by decide), ((a2.nx a3).up (by decide)).up (by decide), ((a4.rd a3.mf).up (by decide)).up (by decide)⟩
      rcases hv with ⟨hv2, hv1, hkd⟩ | ⟨hv2, hv1, hkd⟩
      ·
        subst hkd
        have wr : ∀ s, zp (zb_Reader_readSetting_148 N r13.2.1 r13.2.2 v2 s0 s) (fun r => zp (zb_M_assign_56 N' μ0 v1 xx 1) (fun s => OUT T a c ws r.1 r.2 s)) := by
          intro s
          unfold zb_Reader_readSetting_148
          refine zp_ite (fun q => absurd q hv2) fun _ => zp_bind (zp_mono (p_write (a := a) (N' := N') ct (by omega) F G sx' ns') fun r hr => zp_some (ref fun r6 r8 sm8 nm8 me e39 => zp_bind (zp_mono (m1 N' r8 sm8) ?_)))
          rintro r9 ⟨s9, f9⟩
          obtain ⟨b1, b2, b3⟩ := S (i := ((24 * (r6 82 39)) + Int32.ofNat (len (c 2 - 1))).toNatClampNeg) (x := xx) (y := 0) s9 nm8 f9 me
          exact zp_ite (fun _ => zp_chk fun _ => zp_chk fun _ => zp_ite (fun _ => hr _ v1 _ hv1 b1 b2 b3) fun q => absurd hv1 q) fun q => absurd s9.2.2.2 q
        exact zp_ite (fun _ => wr _) fun _ => zp_bind fun r _ => wr _
      · subst hkd hv1 hv2
        have sumc : ∀ {P : Prop}, P → (P → ∀ r9 : zS, SM T (a + 1 + 1) r9 → NSM c ws nv wv r9 → (T.1 (a + 2) = 3 → zp (zf_M_fieldHere N' r9) (fun r => r = -1))) → zp ((zf_Reader_readSum N r13.2.1 r13.2.2 s0).bind fun r18 => some (r18.1, r18.2)) (fun r => zp (zb_M_assign_56 N' μ0 (-1) xx 2) (fun s => OUT T a c ws r.1 r.2 s)) := by
          intro P hP hno
          refine zp_bind (zp_mono (p_sum (a := a) (N' := N') ct (by omega) F G sx' ns') fun r hr => zp_some (ref fun r6 r8 sm8 nm8 me e39 => zp_bind (zp_mono (m1 N' r8 sm8) ?_)))
          rintro r9 ⟨s9, f9⟩
          obtain ⟨b1, b2, b3⟩ := S (i := ((24 * (r6 82 39)) + Int32.ofNat (len (c 2 - 1))).toNatClampNeg) (x := xx) (y := 0) s9 nm8 f9 me
          refine zp_ite (fun _ => zp_chk fun _ => zp_chk fun _ => zp_ite (fun q => absurd rfl q) fun _ => zp_ite (fun _ => hr _ _ b1 b2 b3) fun z => zp_bind (zp_mono (hno hP _ b1 b2 (s9.d.name.mp (Classical.not_not.mp z))) fun r28 h28 => zp_ite (fun _ => hr _ _ b1 b2 b3) fun q => absurd h28 q)) fun q => absurd s9.2.2.2 q
        refine zp_ite (fun z => ?_) fun z => ?_
        · unfold zb_Reader_readSetting_148
          exact zp_ite (fun _ => zp_ite (fun _ => sumc z fun z _ _ _ q => absurd q z) fun q => absurd rfl q) fun q => absurd rfl q
        · have z3 : T.1 (a + 1 + 1) = 3 := Classical.not_not.mp z
          obtain ⟨f2, l2, t2, w2, lq⟩ := LQ.ex ns'.1 ns'.2.1 (T.2.2.1 (a + 1 + 1))
          have lx := LX.mk ns'.1 ns'.2.1 lq
          refine zp_bind (zp_mono (lx.2.1 N) fun r21 h21 => ?_)
          subst h21
          unfold zb_Reader_readSetting_148
          refine zp_ite (fun _ => zp_ite (fun y => sumc y fun y r9 s9 n9 _ => ?_) fun y => ?_) fun q => absurd rfl q
          · refine zp_mono ((LM.mk n9 (s9.cur z3) lq).1 N') fun r hr => ?_
            rw [hr]; exact y
          · unfold zf_Reader_readRead
            have kk3 : ¬ T.1 (a + 1 + 1) = 0 ∧ ¬ T.1 (a + 1 + 1) = 1 := by rw [z3]; decide
            refine zp_bind (zp_bind (zp_mono (X.tk sm.1 sx' ns' kk3) ?_))
            rintro r1 ⟨y1, y2, y3, y4, y5, y6⟩
            refine zp_mono (p_fin (a := a) (N' := N') ct (by omega) (F.tr y4) (G.tr y5) y1 y2 (by decide)) fun r hr => zp_some (ref fun r6 r8 sm8 nm8 me e39 => zp_bind (zp_mono (m1 N' r8 sm8) ?_))
            rintro r9 ⟨s9, f9⟩
            rw [e39, (z24 t4 (by omega)).2.1]
            obtain ⟨b1, b2, b3⟩ := S (i := 24 * (c 2 - 1) + len (c 2 - 1)) (x := xx) (y := 0) s9 nm8 f9 me
            refine zp_ite (fun _ => zp_chk fun _ => zp_chk fun _ => zp_ite (fun q => absurd rfl q) fun _ => zp_ite (fun q => absurd (s9.d.name.mpr z3) q) fun _ => zp_bind (zp_mono ((LM.mk b2 (b1.cur z3) lq).1 N') fun r28 h28 => zp_ite (fun q => absurd (h28.symm.trans q) y) fun _ => zp_chk fun _ => zp_bind fun r31 _ => zp_chk fun _ => zp_bind (zp_mono (M.tk ((b1.up (q := 92) (by decide)).up (q := 93) (by decide)) ((b2.up (q := 92) (by decide)).up (q := 93) (by decide)) kk3) ?_))) fun q => absurd s9.2.2.2 q
            rintro ν ⟨n1, n2, n3, n4⟩
            exact p_230 (hr ν n1 n2 (((b3.up92 (x := 0)).up93).rd n4))
theorem s_set {T : TS} {a N N' : Nat} {c : Nat → Nat} {ws : Nat → Nat → Int64} {nv : Nat} {wv : Nat → Int64} {len : Nat → Nat} {d : Nat} {ρ : zS} {τ : zT} {μ : zS} (rl : RLX T a c ws nv wv len d ρ τ μ) (hd : 0 < d) (hk : T.1 a = 3) : zp (zf_Reader_readSetting N ρ τ) (fun r => zp (zf_M_statement N' μ) (fun s => OUT T a c ws r.1 r.2 s)) := by
  obtain ⟨sx, sm, ns, nm, pk, la⟩ := rl
  have c4 := ns.1.c2
  rw [p_M_assign (sm.d.name.mpr hk)]
  obtain ⟨f, l, t, v, lq⟩ := LQ.ex ns.1 ns.2.1 (T.2.2.1 a)
  have lx := LX.mk ns.1 ns.2.1 lq
  have lm := LM.mk nm (sm.cur hk) lq
  have dj := lq.dj ns.1
  have fl25 : (f = -1 ∧ ¬ (f = -1 ∧ l = -1 ∧ t = -1)) → zp (zb_Reader_readSetting_25 N ρ τ) (fun r => zp ((zf_M_assign N' μ).bind fun r72 => some (r72)) (fun s => OUT T a c ws r.1 r.2 s)) := by
    intro h
    unfold zb_Reader_readSetting_25 zf_M_assign
    refine zp_bind (zp_mono (p_X_fail (by decide)) fun r hr => zp_some ?_)
    rw [sx.p] at hr
    refine zp_bind (zp_bind (zp_mono (lm.1 N') fun r1 h1 => zp_ite (fun q => absurd (h1.trans h.1) q) fun _ => zp_bind (zp_mono (lm.2.2.2.1 N') fun r35 h35 => zp_ite (fun q => ?_) fun _ => zp_bind (zp_mono (p_M_cannot sm.2.2.2) fun s hs => zp_some (zp_some (Or.inl ⟨_, hr.2, ?_⟩))))))
    · rcases h35 with h35 | h35
      · exact absurd h35.2 h.2
      · rw [h35.1] at q; exact absurd q (by decide)
    · rw [sm.p] at hs; exact hs
  unfold zf_Reader_readSetting
  rw [sx.w]
  refine zp_bind (zp_mono (lx.1 N) fun so hso => zp_ite (fun q => fl25 ?_) fun q1 => zp_ite (fun q2 => zp_ite (fun q3 => ?_) fun q3 => ?_) fun q2 => fl25 ?_)
  · rcases hso with h | h | h | h
    · rw [h.1] at q; exact absurd q (by decide)
    · rw [h.1] at q; exact absurd q (by decide)
    · exact ⟨h.2.1, fun x => h.2.2.1 x.2.1⟩
    · rw [h.1] at q; exact absurd q (by decide)
  ·
    have un : f = -1 ∧ l = -1 ∧ t = -1 := by
      rcases hso with h | h | h | h
      · exact h.2
      · exact absurd h.1 q3
      · exact absurd h.1 q1
      · exact absurd h.1 q2
    obtain ⟨uf, ul, ut⟩ := un
    subst uf ul ut
    have ref : ∀ {Q : zS → Prop}, zp (zf_M_local N' μ 1) (fun r34 => zp (zb_M_assign_36 N' r34.2 (-1) r34.1) Q) → zp ((zf_M_assign N' μ).bind fun r72 => some (r72)) Q := by
      intro Q h
      unfold zf_M_assign zb_M_assign_22
      refine zp_bind (zp_bind (zp_mono (lm.1 N') fun r1 h1 => zp_ite (fun q => absurd h1 q) fun _ => zp_bind (zp_mono (lm.2.2.2.1 N') fun r35 h35 => zp_ite (fun q => ?_) fun q => ?_)))
      · rw [h1]
        refine zp_ite (fun q => absurd rfl q) fun _ => zp_bind (zp_mono h fun r34 h34 => ?_)
        intro s e
        exact zp_some (h34 s e)
      · rcases h35 with h35 | h35
        · exact absurd h35.1 q
        · exact absurd ⟨rfl, rfl, rfl⟩ h35.2
    unfold zb_Reader_readSetting_41
    rw [sx.w]
    refine zp_ite (fun _ => zp_bind (zp_mono (p_X_makeLocal ns.1 ns.2.1 lq.2.2.2) fun r hr => ?_)) fun q => absurd rfl q
    rcases hr with ⟨hv, hr⟩ | ⟨hv, n3, hr⟩ | ⟨hv, n3, hr⟩
    · rw [hr]
      refine zp_mono (p_asg (N' := N') (v1 := -1) (xx := v) (kd := 2) pk la hd c4 RXF.rfl' RTF.rfl' sx ns RMF.rfl' sm nm hk hv (Or.inr ⟨rfl, rfl, rfl⟩)) fun r' h' => ref (zp_mono (p_M_local nm sm.2.2.2 (sm.cur hk) lq.2.2.2) fun s hs => ?_)
      unfold zb_M_assign_36
      rcases hs with hs | hs | hs | hs
      · rw [hs.2]
        exact zp_ite (fun _ => zp_ite (fun q => absurd rfl q) fun _ => h') fun q => absurd sm.2.2.2 q
      · exact absurd hs.1 hv
      · exact absurd hs.1 hv
      · exact absurd hs.1 hv
    · subst hv
      rw [hr]
      intro r' e'
      refine ref (zp_mono (p_M_local nm sm.2.2.2 (sm.cur hk) lq.2.2.2) fun s hs => ?_)
      unfold zb_M_assign_36
      rcases hs with hs | hs | hs | hs
      · exact absurd rfl hs.1
      · exact absurd hs.2.1 (by decide)
      · exact absurd hs.2.2.1 (by omega)
      · obtain ⟨_, _, _, y1, y2, y3, y4, y5⟩ := hs
        have sm' := sm.lcl y4 y5
        have h' := p_asg (N' := N') (v1 := -1) (xx := s.1) (kd := 2) pk la hd c4 RXF.lcl RTF.lcl sx.lcl (ns.lcl lq n3) y3 sm' y2 hk (zo_ne (by omega)) (Or.inr ⟨rfl, rfl, rfl⟩) r' e'
        exact zp_ite (fun _ => zp_ite (fun q => absurd rfl q) fun _ => h') fun q => absurd sm'.2.2.2 q
    · subst hv
      rw [hr]
      unfold zb_Reader_readSetting_78 zb_Reader_readSetting_94
      refine zp_ite (fun _ => zp_bind (zp_mono (p_X_fail (by decide)) fun r hr => zp_some ?_)) fun q => absurd rfl q
      dsimp only at hr
      rw [sx.p] at hr
      refine ref (zp_mono (p_M_local nm sm.2.2.2 (sm.cur hk) lq.2.2.2) fun s hs => ?_)
      unfold zb_M_assign_36
      rw [sm.p] at hs
      rcases hs with hs | hs | hs | hs
      · exact absurd rfl hs.1
      · exact absurd hs.2.1 (by decide)
      · exact zp_ite (fun q => absurd q hs.2.2.2.1) fun _ => zp_some (Or.inl ⟨_, hr.2, hs.2.2.2⟩)
      · exact absurd hs.2.2.1 (by omega)
  ·
    have q3' : so = 0 := Classical.not_not.mp q3
    have fn : f ≠ -1 := by
      rcases hso with h | h | h | h
      · rw [h.1] at q3'; exact absurd q3' (by decide)
      · exact h.2.1
      · rw [h.1] at q3'; exact absurd q3' (by decide)
      · rw [h.1] at q3'; exact absurd q3' (by decide)
    unfold zb_Reader_readSetting_41
    rw [sx.w, q3']
    refine zp_ite (fun q => absurd q (by decide)) fun _ => zp_bind (zp_mono (lx.2.1 N) fun r22 h22 => ?_)
    subst h22
    refine zp_mono (p_asg (N' := N') (v1 := r22) (xx := 0) (kd := 1) pk la hd c4 RXF.rfl' RTF.rfl' sx ns RMF.rfl' sm nm hk fn (Or.inl ⟨by decide, fn, rfl⟩)) fun r' h' => ?_
    unfold zf_M_assign zb_M_assign_22 zb_M_assign_36
    refine zp_bind (zp_bind (zp_mono (lm.1 N') fun r1 h1 => ?_))
    rw [h1]
    refine zp_ite (fun _ => zp_ite (fun _ => zp_ite (fun _ => zp_ite (fun _ => ?_) fun q => absurd fn q) fun q => absurd sm.2.2.2 q) fun q => absurd fn q) fun q => absurd fn q
    intro s e
    exact zp_some (h' s e)
  · have q2' : so = 2 := Classical.not_not.mp q2
    rcases hso with h | h | h | h
    · rw [h.1] at q2'; exact absurd q2' (by decide)
    · rw [h.1] at q2'; exact absurd q2' (by decide)
    · exact absurd h.1 q1
    · exact ⟨h.2.1, fun x => h.2.2.2 x.2.2⟩
theorem PKW.of {c len : Nat → Nat} {d : Nat} {ρ μ r ν : zS} (h : PKW c len d ρ μ) (g : ∀ q, q = 4 ∨ q = 5 ∨ q = 7 ∨ q = 29 ∨ q = 30 → r q = ρ q) (gm : ∀ q, q = 90 ∨ q = 92 ∨ q = 103 → ν q = μ q) (g2 : ∀ i, i = 25 ∨ i = 39 ∨ i = 41 ∨ i = 46 → ν 82 i = μ 82 i) : PKW c len d r ν := by
  unfold PKW at *
  rw [g 4 (by decide), g 5 (by decide), g 7 (by decide), g 29 (by decide), g 30 (by decide), gm 90 (by decide), gm 92 (by decide), gm 103 (by decide), g2 25 (by decide), g2 39 (by decide), g2 41 (by decide), g2 46 (by decide)]
  exact h
theorem p_X_slotOf {ρ : zS} {t s : Nat} (ht : t < 4) (hs : s < 24) (hl : Int32.ofNat s < ρ 5 t) : zp (zf_Program_slotOf ρ (Int32.ofNat t) (Int32.ofNat s)) (fun r => r = Int32.ofNat (24 * t + s)) := by
  unfold zf_Program_slotOf zb_Program_slotOf_33 zb_Program_slotOf_34
  have A : zp (if (1 : Int32) = 0 then some (96 : Int32) else some (Int32.ofNat t * 24 + Int32.ofNat s)) (fun r => r = Int32.ofNat (24 * t + s)) := zp_ite (fun q => absurd q (by decide)) fun _ => zp_some (z24 ht (by omega)).2.2.1
  have n1 : ¬ Int32.ofNat t < 0 := fun q => by have := (zo_lt (k := t) (j := 0) (by omega) (by omega)).mp q; omega
  have n2 : ¬ 4 ≤ Int32.ofNat t := fun q => by have := (zo_le (k := 4) (j := t) (by omega) (by omega)).mp q; omega
  have n3 : ¬ Int32.ofNat s < 0 := fun q => by have := (zo_lt (k := s) (j := 0) (by omega) (by omega)).mp q; omega
  have n4 : ¬ 24 ≤ Int32.ofNat s := fun q => by have := (zo_le (k := 24) (j := s) (by omega) (by omega)).mp q; omega
  rw [zo_n (m := t) (by omega)]
  have n5 : ¬ ρ 5 t ≤ Int32.ofNat s := Int32.not_le.mpr hl
  simp only [n1, n2, n3, n4, n5, if_false]
  have e := (z24 ht (show s ≤ 24 by omega)).2.2.1
  refine fun r hr => ?_
  simp [e] at hr
  grind
theorem LAT.sj {nz : Nat} {wz : Nat → Int64} {SL : Nat → Nat} {c : Nat → Nat} {ws : Nat → Nat → Int64} {len : Nat → Nat} {d t L : Nat} {k : Int32} {ρ r μ ν : zS} {τ υ : zT} (h1 : nz ≤ 128) (h3 : ∀ l, l < nz → Nm μ (17 + l) (wz l) ∧ SJ c len μ (SL l) ∧ τ 23 (SL l) = wz l ∧ ρ 24 (SL l) = μ 87 l) (h4 : ∀ l l', l < l' → l' < nz → SL l < SL l') (h5 : ∀ q, SJ c len μ q → (∃ k, k < c 2 ∧ μ 93 q = Int32.ofNat k ∧ ws 2 k = τ 23 q) ∨ (∃ l, l < nz ∧ μ 93 q = Int32.ofNat (4 + l) ∧ wz l = τ 23 q ∧ SL l ≤ q))
    (pk : PKW c len d ρ μ) (ht : t = c 2 - 1) (c1 : 0 < c 2) (hL : L = len t) (x24 : ∀ j, j ≠ 24 * t + L → r 24 j = ρ 24 j) (y : ∀ j, j ≠ 24 * t + L → υ 23 j = τ 23 j) (hk : k = 10 ∨ k = 11) (m92 : ν 92 (24 * t + L) = k) (mo : ∀ j, j ≠ 24 * t + L → ν 92 j = μ 92 j ∧ ν 93 j = μ 93 j) (nms : ∀ l, l < nz → Nm ν (17 + l) (wz l)) (m87 : ∀ l, l < nz → ν 87 l = μ 87 l)
    (hD : (ν 82 19 = Int32.ofNat nz ∧ ((∃ k, k < c 2 ∧ ν 93 (24 * t + L) = Int32.ofNat k ∧ ws 2 k = υ 23 (24 * t + L)) ∨ (∃ l, l < nz ∧ ν 93 (24 * t + L) = Int32.ofNat (4 + l) ∧ wz l = υ 23 (24 * t + L)))) ∨ (ν 82 19 = Int32.ofNat (nz + 1) ∧ nz + 1 ≤ 128 ∧ Nm ν (17 + nz) (υ 23 (24 * t + L)) ∧ ν 87 nz = r 24 (24 * t + L) ∧ ν 93 (24 * t + L) = Int32.ofNat (4 + nz))) : LAT c ws (lUp len t (L + 1)) r υ ν := by
  have A : ∀ q, SJ c len μ q → q < 24 * t + L := by
    rintro q ⟨⟨t', s, a1, a2, rfl⟩, _⟩
    have := (pk.1 t' a1).1
    by_cases q2 : t' = t
    · rw [q2] at a2 ⊢; omega
    · omega
  have B : ∀ q, SJ c len μ q → SJ c (lUp len t (L + 1)) ν q := by
    intro q hq
    have ne := A q hq
    obtain ⟨⟨t', s, a1, a2, e⟩, b⟩ := hq
    refine ⟨⟨t', s, a1, ?_, e⟩, by rw [(mo q (by omega)).1]; exact b⟩
    by_cases q2 : t' = t
    · rw [q2, lUp_at]; rw [q2] at a2; omega
    · rw [lUp_ne q2]; exact a2
  have B0 : SJ c (lUp len t (L + 1)) ν (24 * t + L) := ⟨⟨t, L, by omega, by rw [lUp_at]; omega, rfl⟩, by rw [m92]; exact hk⟩
  have C : ∀ q, SJ c (lUp len t (L + 1)) ν q → q = 24 * t + L ∨ SJ c len μ q := by
    intro q hq
    obtain ⟨⟨t', s, a1, a2, e⟩, b⟩ := hq
    by_cases ne : q = 24 * t + L
    · exact Or.inl ne
    refine Or.inr ⟨⟨t', s, a1, ?_, e⟩, by rw [← (mo q ne).1]; exact b⟩
    by_cases q2 : t' = t
    · rw [q2, lUp_at] at a2
      rw [q2] at e ⊢
      omega
    · rw [lUp_ne q2] at a2; exact a2
  have old : ∀ l, l < nz → Nm ν (17 + l) (wz l) ∧ SJ c (lUp len t (L + 1)) ν (SL l) ∧ υ 23 (SL l) = wz l ∧ r 24 (SL l) = ν 87 l := by
    intro l hl
    obtain ⟨a, b, u, v⟩ := h3 l hl
    have lt := A _ b
    exact ⟨nms l hl, B _ b, by rw [y _ (by omega)]; exact u, by rw [x24 _ (by omega), m87 l hl]; exact v⟩
  rcases hD with ⟨d1, d2⟩ | ⟨d1, d2, d3, d4, d5⟩
  · refine ⟨nz, wz, SL, h1, d1, old, h4, fun q hq => ?_⟩
    rcases C q hq with e | q'
    · subst e
      rcases d2 with d2 | ⟨l, l1, l2, l3⟩
      · exact Or.inl d2
      · exact Or.inr ⟨l, l1, l2, l3, Nat.le_of_lt (A _ (h3 l l1).2.1)⟩
    · have lt := A q q'
      rw [(mo q (by omega)).2, y q (by omega)]
      exact h5 q q'
  · refine ⟨nz + 1, wAdd nz wz (υ 23 (24 * t + L)), lUp SL nz (24 * t + L), d2, d1, fun l hl => ?_, fun l l' ll hl' => ?_, fun q hq => ?_⟩
    · by_cases e : l = nz
      · rw [e, lUp_at, wAdd_at]
        exact ⟨d3, B0, rfl, d4.symm⟩
      · rw [lUp_ne e, wAdd_ne e]
        exact old l (by omega)
    · rw [lUp_ne (show l ≠ nz by omega)]
      by_cases e : l' = nz
      · rw [e, lUp_at]; exact A _ (h3 l (by omega)).2.1
      · rw [lUp_ne e]; exact h4 l l' ll (by omega)
    · rcases C q hq with e | q'
      · subst e
        exact Or.inr ⟨nz, by omega, d5, wAdd_at, by rw [lUp_at]; exact Nat.le_refl _⟩
      · have lt := A q q'
        rw [(mo q (by omega)).2, y q (by omega)]
        rcases h5 q q' with h | ⟨l, l1, l2, l3, l4⟩
        · exact Or.inl h
        · exact Or.inr ⟨l, by omega, l2, by rw [wAdd_ne (by omega)]; exact l3, by rw [lUp_ne (by omega)]; exact l4⟩
theorem zo_plus {x : Int32} {i j : Nat} (hx : x = Int32.ofNat i) (h : i + j ≤ 100000) : x + Int32.ofNat j = Int32.ofNat (i + j) := by
  subst hx
  apply Int32.toInt_inj.mp
  have a := zo_ti (m := i) (by omega)
  have b := zo_ti (m := j) (by omega)
  rw [z_ti_add (by omega) (by omega), a, b, zo_ti (by omega)]
  omega
theorem p_M_threadNamed {T : TS} {b N nz : Nat} {c : Nat → Nat} {ws : Nat → Nat → Int64} {nv : Nat} {wv : Nat → Int64} {wz : Nat → Int64} {μ : zS} {f l t v : Int32} (sm : SM T b μ) (nm : NSM c ws nv wv μ) (hk : T.1 b = 3) (lq : LQ c ws nv wv (T.2.2.1 b) f l t v) (dj : t ≠ -1 → f = -1 ∧ l = -1) (z128 : nz ≤ 128) (h19 : μ 82 19 = Int32.ofNat nz) (nms : ∀ l, l < nz → Nm μ (17 + l) (wz l)) : zp (zf_M_threadNamed N μ) (fun s => ((f ≠ -1 ∨ l ≠ -1) ∧ MFl s.2 (T.2.1 b)) ∨ (f = -1 ∧ l = -1 ∧ SM T (b + 1) s.2 ∧ ((NX0 μ s.2 ∧ ((t ≠ -1 ∧ s.1 = t) ∨ (∃ k, k < nz ∧ wz k = T.2.2.1 b ∧ s.1 = Int32.ofNat (4 + k)))) ∨ (nz + 1 ≤ 128 ∧ s.1 = Int32.ofNat (4 + nz) ∧ ∃ μ2, MC0 (17 + nz) μ μ2 ∧ Nm μ2 (17 + nz) (T.2.2.1 b) ∧ NX0 (zx_up (zx_up μ2 87 nz (T.2.1 b)) 82 19 (Int32.ofNat (nz + 1))) s.2)))) := by
  have lm := LM.mk nm (sm.cur hk) lq
  have k2 : μ 82 7 = 2 := sm.d.name.mpr hk
  have kk : ¬ T.1 b = 0 ∧ ¬ T.1 b = 1 := by rw [hk]; decide
  unfold zf_M_threadNamed zb_M_threadNamed_25
  refine zp_ite (fun _ => zp_ite (fun q => absurd k2 q) fun _ => zp_bind (zp_mono (lm.2.2.1 N) fun r14 h14 => ?_)) fun q => absurd sm.2.2.2 q
  subst h14
  have go52 : f = -1 → l = -1 → zp (zb_M_threadNamed_52 N μ r14) (fun s => ((f ≠ -1 ∨ l ≠ -1) ∧ MFl s.2 (T.2.1 b)) ∨ (f = -1 ∧ l = -1 ∧ SM T (b + 1) s.2 ∧ ((NX0 μ s.2 ∧ ((r14 ≠ -1 ∧ s.1 = r14) ∨ (∃ k, k < nz ∧ wz k = T.2.2.1 b ∧ s.1 = Int32.ofNat (4 + k)))) ∨ (nz + 1 ≤ 128 ∧ s.1 = Int32.ofNat (4 + nz) ∧ ∃ μ2, MC0 (17 + nz) μ μ2 ∧ Nm μ2 (17 + nz) (T.2.2.1 b) ∧ NX0 (zx_up (zx_up μ2 87 nz (T.2.1 b)) 82 19 (Int32.ofNat (nz + 1))) s.2)))) := by
    intro hf hl
    unfold zb_M_threadNamed_52 zb_M_threadNamed_112 zb_M_threadNamed_116
    refine zp_ite (fun z => zp_bind (zp_mono (sm.nx kk) ?_)) fun z => ?_
    · rintro ν ⟨n1, n3⟩
      exact zp_some (Or.inr ⟨hf, hl, n1, Or.inl ⟨n3, Or.inl ⟨z, rfl⟩⟩⟩)
    · rw [h19]
      refine zp_bind (zp_mono (p_M_find (fr := 17) (c := nz) (by omega) nms (sm.cur hk)) fun r8 h8 => zp_ite (fun y => ?_) fun y => ?_)
      · rcases h8 with ⟨e, _⟩ | ⟨k, k1, k3, k4, _⟩
        · exact absurd e y
        · refine zp_bind (zp_mono (sm.nx kk) ?_)
          rintro ν ⟨n1, n3⟩
          exact zp_some (Or.inr ⟨hf, hl, n1, Or.inl ⟨n3, Or.inr ⟨k, k1, k4, by rw [k3]; exact zo_plus (i := 4) rfl (by omega)⟩⟩⟩)
      · have e17 : 17 + Int32.ofNat nz = Int32.ofNat (17 + nz) := zo_plus (i := 17) rfl (by omega)
        rw [e17]
        refine zp_bind (zp_mono (p_M_call (by omega) (sm.cur hk)) ?_)
        rintro μ2 ⟨mc, nmz⟩
        have e82 : μ2 82 = μ 82 := mc.1 82 (by decide) (by decide)
        rw [e82, h19, sm.p, zo_n (by omega), zo_1 (by omega)]
        refine zp_chk fun ck => zp_bind (zp_mono (SM.nx (T := T) (a := b) ?_ kk) ?_)
        · refine sm.of ?_ fun i hi => ?_
          · rw [zu_other (by decide), zu_other (by decide), mc.1 84 (by decide) (by decide)]
          · rw [zx_up_same, zu_ne (by omega), zu_other (by decide), e82]
        · rintro ν ⟨n1, n3⟩
          refine zp_some (Or.inr ⟨hf, hl, n1, Or.inr ⟨?_, zo_plus (i := 4) rfl (by omega), μ2, mc, nmz, n3⟩⟩)
          have := (zo_lt (k := nz) (j := 128) (by omega) (by omega)).mp ck.2
          omega
  have go46 : (f ≠ -1 ∨ l ≠ -1) → zp (zb_M_threadNamed_46 N μ) (fun s => ((f ≠ -1 ∨ l ≠ -1) ∧ MFl s.2 (T.2.1 b)) ∨ (f = -1 ∧ l = -1 ∧ SM T (b + 1) s.2 ∧ ((NX0 μ s.2 ∧ ((r14 ≠ -1 ∧ s.1 = r14) ∨ (∃ k, k < nz ∧ wz k = T.2.2.1 b ∧ s.1 = Int32.ofNat (4 + k)))) ∨ (nz + 1 ≤ 128 ∧ s.1 = Int32.ofNat (4 + nz) ∧ ∃ μ2, MC0 (17 + nz) μ μ2 ∧ Nm μ2 (17 + nz) (T.2.2.1 b) ∧ NX0 (zx_up (zx_up μ2 87 nz (T.2.1 b)) 82 19 (Int32.ofNat (nz + 1))) s.2)))) := by
    intro h
    unfold zb_M_threadNamed_46
    refine zp_bind (zp_mono (p_M_cannot sm.2.2.2) fun s hs => zp_some (Or.inl ⟨h, ?_⟩))
    rw [sm.p] at hs
    exact hs
  refine zp_ite (fun q => absurd k2 q) fun _ => zp_ite (fun z => go52 (dj z).1 (dj z).2) fun z => zp_bind (zp_mono (lm.2.2.2.1 N) fun r12 h12 => zp_ite (fun y => ?_) fun y => go46 ?_)
  · rcases h12 with h | h
    · exact go52 h.2.1 h.2.2.1
    · rw [h.1] at y; exact absurd y (by decide)
  · rcases h12 with h | h
    · exact absurd h.1 y
    · by_cases hf : f = -1
      · exact Or.inr fun hl => h.2 ⟨hf, hl, Classical.not_not.mp z⟩
      · exact Or.inl hf
theorem zo_pred {n : Nat} (h : 0 < n) (hn : n ≤ 100000) : Int32.ofNat n - 1 = Int32.ofNat (n - 1) := by
  apply Int32.toInt_inj.mp
  have k : (1 : Int32).toInt = 1 := rfl
  rw [Int32.toInt_sub, zo_ti hn, zo_ti (by omega), k, Int.bmod_def]
  omega
theorem s_thread {T : TS} {a N N' : Nat} {c : Nat → Nat} {ws : Nat → Nat → Int64} {nv : Nat} {wv : Nat → Int64} {len : Nat → Nat} {d : Nat} {ρ : zS} {τ : zT} {μ : zS} {k : Int32} (rl : RLX T a c ws nv wv len d ρ τ μ) (hd : 0 < d) (kk : ¬ T.1 a = 0 ∧ ¬ T.1 a = 1) (hk : k = 10 ∨ k = 11) : zp (zf_Reader_readThreadStep N ρ τ k) (fun r => zp (zb_M_statement_402 N' μ (24 * (μ 82 39)) k) (fun s => OUT T a c ws r.1 r.2 s)) := by
  obtain ⟨t4, h8, h5, hL, h39, h90⟩ := rl.th hd
  obtain ⟨sx, sm, ns, nm, pk, la⟩ := rl
  unfold zf_Reader_readThreadStep zb_M_statement_402
  rw [h39]
  refine zp_bind (zp_mono (p_X_room sx h8 t4 h5 hL).2 fun r1 hr => ?_)
  rcases hr with ⟨l, e, fl⟩ | ⟨l, e⟩
  · refine zp_ite (fun q => absurd e q) fun _ => zp_some ?_
    refine p_M_begin sm nm kk h39 t4 h90 hL (fun _ r r' h' => zp_bind (zp_mono (p_F_threadNamed h') fun s hs => zp_chk fun _ => zp_bind (zp_mono (p_F_take (hs.up (by decide))) fun s hs => zp_some (Or.inl ⟨_, fl, hs⟩)))) fun l' => by omega
  · subst e
    refine zp_ite (fun _ => zp_bind (zp_mono (X.tk sm.1 sx ns kk) ?_)) fun q => absurd (show ¬ (1 : Int32) = 0 by decide) q
    rintro r3 ⟨x1, x2, x3, x4, x5, x6⟩
    rw [x1.k, x1.w]
    have fl54 : (∀ r', SM T (a + 1) r' → NSM c ws nv wv r' → zp (zf_M_threadNamed N' r') (fun s => MFl s.2 (T.2.1 (a + 1)))) → zp (zb_Reader_readThreadStep_54 N r3.1 r3.2) (fun r => zp ((zf_M_addStep N' μ k 0).bind fun r32 => (zf_M_nextIfWell N' r32.2).bind fun r33 => (zf_M_threadNamed N' r33).bind fun r34 => if 0 ≤ (24 * Int32.ofNat (c 2 - 1) + r32.1) ∧ (24 * Int32.ofNat (c 2 - 1) + r32.1) < 96 then (zf_M_take N' (zx_up r34.2 93 (24 * Int32.ofNat (c 2 - 1) + r32.1).toNatClampNeg r34.1) 59).bind fun r36 => some (r36) else none) (fun s => OUT T a c ws r.1 r.2 s)) := by
      intro m
      unfold zb_Reader_readThreadStep_54
      refine zp_bind (zp_mono (p_X_fail (by decide)) fun r hr => zp_some ?_)
      rw [x1.p] at hr
      refine p_M_begin sm nm kk h39 t4 h90 hL (fun l' => by omega) fun _ r r' e1 as nx sm' nm' => zp_bind (zp_mono (m r' sm' nm') fun s hs => zp_chk fun _ => zp_bind (zp_mono (p_F_take (hs.up (by decide))) fun s hs => zp_some (Or.inl ⟨_, hr.2, hs⟩)))
    refine zp_ite (fun z => ?_) fun z => ?_
    · unfold zb_Reader_readThreadStep_44
      refine zp_ite (fun _ => fl54 fun r' sm' nm' => ?_) fun q => absurd rfl q
      unfold zf_M_threadNamed zb_M_threadNamed_25 zb_M_threadNamed_46
      have k2 : ¬ r' 82 7 = 2 := fun q => z (sm'.d.name.mp q)
      refine zp_ite (fun _ => zp_ite (fun _ => zp_ite (fun _ => zp_bind (zp_mono (p_M_cannot sm'.2.2.2) fun s hs => zp_some ?_)) fun q => absurd k2 q) fun q => absurd k2 q) fun q => absurd sm'.2.2.2 q
      rw [sm'.p] at hs
      exact hs
    · have z3 : T.1 (a + 1) = 3 := Classical.not_not.mp z
      have kk3 : ¬ T.1 (a + 1) = 0 ∧ ¬ T.1 (a + 1) = 1 := by rw [z3]; decide
      obtain ⟨f, lo, t, v, lq⟩ := LQ.ex x2.1 x2.2.1 (T.2.2.1 (a + 1))
      have lx := LX.mk x2.1 x2.2.1 lq
      have dj := lq.dj x2.1
      have dj' : t ≠ -1 → f = -1 ∧ lo = -1 := fun q => (dj.2.2.1.resolve_left q).2.2
      obtain ⟨nz, wz, SL, z1, z2, zz3, z4, z5⟩ := la
      refine zp_bind (zp_mono (lx.1 N) fun so hso => ?_)
      have bad : (f ≠ -1 ∨ lo ≠ -1) → ∀ r', SM T (a + 1) r' → NSM c ws nv wv r' → zp (zf_M_threadNamed N' r') (fun s => MFl s.2 (T.2.1 (a + 1))) := by
        intro h r' sm' nm'
        have lm := LM.mk nm' (sm'.cur z3) lq
        have k2 : r' 82 7 = 2 := sm'.d.name.mpr z3
        have t1 : t = -1 := by
          by_cases q : t = -1
          · exact q
          · exact absurd (dj' q) (fun x => h.elim (fun y => y x.1) (fun y => y x.2))
        unfold zf_M_threadNamed zb_M_threadNamed_25 zb_M_threadNamed_46
        refine zp_ite (fun _ => zp_ite (fun q => absurd k2 q) fun _ => zp_bind (zp_mono (lm.2.2.1 N') fun r14 h14 => zp_ite (fun q => absurd k2 q) fun _ => zp_ite (fun q => absurd (h14.trans t1) q) fun _ => zp_bind (zp_mono (lm.2.2.2.1 N') fun r12 h12 => zp_ite (fun y => ?_) fun y => zp_bind (zp_mono (p_M_cannot sm'.2.2.2) fun s hs => zp_some ?_)))) fun q => absurd sm'.2.2.2 q
        · exfalso
          rcases h12 with h12 | h12
          · exact h.elim (fun y => y h12.2.1) (fun y => y h12.2.2.1)
          · rw [h12.1] at y; exact absurd y (by decide)
        · rw [sm'.p] at hs
          exact hs
      unfold zb_Reader_readThreadStep_44
      refine zp_ite (fun q => fl54 (bad ?_)) fun q0 => zp_ite (fun q1 => ?_) fun q1 => fl54 (bad ?_)
      · rcases hso with h | h | h | h
        · rw [h.1] at q; exact absurd q (by decide)
        · exact Or.inl h.2.1
        · rw [h.1] at q; exact absurd q (by decide)
        · rw [h.1] at q; exact absurd q (by decide)
      · have un : f = -1 ∧ lo = -1 := by
          rcases hso with h | h | h | h
          · exact ⟨h.2.1, h.2.2.1⟩
          · exact absurd h.1 q0
          · exact absurd h.1 q1
          · exact ⟨h.2.1, h.2.2.1⟩
        refine zp_bind (zp_mono (p_X_emit (t := c 2 - 1) (L := len (c 2 - 1)) (by rw [x3.1 29 (by decide)]; exact h8) t4 (by rw [x3.1 5 (by decide)]; exact h5) l) fun r8 em => ?_)
        have ce := CEx.of x4 em
        have c1 : 0 < c 2 := (pk.2.2.2.2.2.1 hd).1
        have c4 := ns.1.c2
        have e42 : r8 4 2 = Int32.ofNat (c 2) := by rw [ce.2.1 2 (by decide)]; exact (ns.1.1 2 (by decide)).2
        rw [e42, zo_pred c1 (by omega), em.2.2.2.2.2.2.2.1]
        refine zp_bind (zp_mono (p_X_slotOf t4 l (by rw [ce.2.2.2.1]; exact (zo_lt (by omega) (by omega)).mpr (by omega))) fun r9 h9 => ?_)
        subst h9
        rw [zo_n (by omega)]
        refine zp_ite (fun q => ?_) fun _ => zp_chk fun _ => zp_chk fun _ => ?_
        · have := (zo_le (k := 96) (j := 24 * (c 2 - 1) + len (c 2 - 1)) (by omega) (by omega)).mp q
          omega
        · have sx8 := x1.em em
          have ns8 := x2.em em
          have e258 : r8 25 8 = T.2.1 (a + 1) := sx8.p
          have sx9 : SX T (a + 1) (zx_up r8 24 (24 * (c 2 - 1) + len (c 2 - 1)) (r8 25 8)) (zx_up r3.2 23 (24 * (c 2 - 1) + len (c 2 - 1)) (r3.2 25 9)) := sx8.of (zu_other (by decide)) (zu_other (by decide)) (zu_other (by decide)) (zu_other (by decide)) (zt_other (by decide)) (zt_other (by decide))
          have ns9 : NNX c ws nv wv (zx_up r8 24 (24 * (c 2 - 1) + len (c 2 - 1)) (r8 25 8)) (zx_up r3.2 23 (24 * (c 2 - 1) + len (c 2 - 1)) (r3.2 25 9)) := ns8.of (fun s _ => by rw [zu_other (by decide)]) (zu_other (by decide)) (zu_other (by decide)) (zu_other (by decide)) (zt_other (by decide)) (zt_other (by decide))
          unfold zb_Reader_readThreadStep_126
          refine zp_bind (zp_mono (X.tk sm.1 sx9 ns9 kk3) ?_)
          rintro r11 ⟨y1, y2, y3, y4, y5, y6⟩
          refine zp_bind (zp_mono (p_semi sm.1 y1 y2) fun r12 h12 => zp_some ?_)
          refine p_M_begin sm nm kk h39 t4 h90 hL (fun l' => by omega) fun _ r r' e1 as nx sm' nm' => ?_
          have me := (MEx.of as).rd nx.mf
          have n19 : r' 82 19 = Int32.ofNat nz := (me.2.1 19 (by decide)).trans z2
          have nms : ∀ l, l < nz → Nm r' (17 + l) (wz l) := fun l hl => (zz3 l hl).1.of (fun i hi => me.2.2.2.2.2.2.2 _ (by omega)) (me.2.2.2.2.2.2.1 _ (by omega))
          have X24 : ∀ j, j ≠ 24 * (c 2 - 1) + len (c 2 - 1) → r11.1 24 j = ρ 24 j := fun j hj => by rw [y3.1 24 (by decide), zx_up_same, zu_ne hj]; exact ce.2.2.2.2.2.2.2.2 j hj
          have X24' : r11.1 24 (24 * (c 2 - 1) + len (c 2 - 1)) = T.2.1 (a + 1) := by rw [y3.1 24 (by decide), zx_up_same, zu_eq]; exact e258
          have Y23 : ∀ j, j ≠ 24 * (c 2 - 1) + len (c 2 - 1) → r11.2 23 j = τ 23 j := fun j hj => by rw [y6 23 (by decide), zt_ne hj, x6 23 (by decide)]
          have Y23' : r11.2 23 (24 * (c 2 - 1) + len (c 2 - 1)) = T.2.2.1 (a + 1) := by rw [y6 23 (by decide), zt_at]; exact x1.w
          have CE : CEx (c 2 - 1) (len (c 2 - 1)) k ρ r8 := ce
          have PX : ∀ q, q = 4 ∨ q = 5 ∨ q = 7 ∨ q = 29 ∨ q = 30 → r11.1 q = r8 q := fun q hq => by rw [y3.1 q (by omega), zu_other (by omega)]
          rw [e1, (z24 t4 (by omega)).2.1]
          refine zp_bind (zp_mono (p_M_threadNamed sm' nm' z3 lq dj' z1 n19 nms) fun s hs => ?_)
          rcases hs with ⟨hb, _⟩ | ⟨_, _, s1, hs⟩
          · exact absurd un (fun x => hb.elim (fun y => y x.1) (fun y => y x.2))
          · refine zp_chk fun _ => ?_
            rcases hs with ⟨n3, hw⟩ | ⟨n128, hw, μ2, mc, nmz, n3⟩
            · have me2 := (me.rd n3.mf).up93 (x := s.1)
              have pk2 := (pk.step hd rfl rfl l c4 CE me2).of PX (fun _ _ => rfl) (fun _ _ => rfl)
              refine zp_bind (zp_mono (h12 N' _ a _ d (by omega) hd (s1.up (by decide)) ((nm'.nx n3).up (by decide)) pk2 ?_) fun s hs => zp_some hs)
              refine LAT.sj z1 zz3 z4 z5 pk rfl c1 rfl X24 Y23 hk me2.2.2.2.2.1 me2.2.2.2.2.2.1 (fun l hl => (zz3 l hl).1.of (fun i hi => me2.2.2.2.2.2.2.2 _ (by omega)) (me2.2.2.2.2.2.2.1 _ (by omega))) (fun l hl => by rw [me2.1.1]) (Or.inl ⟨(me2.2.1 19 (by decide)).trans z2, ?_⟩)
              rw [zx_up_same, zu_eq, Y23']
              rcases hw with ⟨tn, e⟩ | ⟨kz, kz1, kz2, kz3⟩
              · rcases lq.2.2.1 with ⟨q, _⟩ | ⟨kt, kt1, kt2, kt3, _⟩
                · exact absurd q tn
                · exact Or.inl ⟨kt, kt1, e.trans kt2, kt3⟩
              · exact Or.inr ⟨kz, kz1, kz3, kz2⟩
            ·
              have u82 : ∀ i, i ≠ 19 → i ≠ 5 → i ≠ 6 → i ≠ 7 → i ≠ 8 → s.2 82 i = r' 82 i := fun i b0 b1 b2 b3 b4 => by rw [n3.2 i b1 b2 b3 b4, zx_up_same, zu_ne b0, zu_other (by decide), mc.1 82 (by decide) (by decide)]
              have uq : ∀ q, q ≠ 82 → q ≠ 85 → q ≠ 86 → q ≠ 87 → s.2 q = r' q := fun q b0 b1 b2 b3 => by rw [n3.1 q b0, zu_other b0, zu_other b3, mc.1 q b1 b2]
              have u86 : s.2 86 = μ2 86 := by rw [n3.1 86 (by decide), zu_other (by decide), zu_other (by decide)]
              have u85 : s.2 85 = μ2 85 := by rw [n3.1 85 (by decide), zu_other (by decide), zu_other (by decide)]
              have u87 : s.2 87 = zu (r' 87) nz (T.2.1 (a + 1)) := by rw [n3.1 87 (by decide), zu_other (by decide), zx_up_same, mc.1 87 (by decide) (by decide)]
              have u19 : s.2 82 19 = Int32.ofNat (nz + 1) := by rw [n3.2 19 (by decide) (by decide) (by decide) (by decide), zx_up_same, zu_eq]
              have nm2 : NSM c ws nv wv s.2 := nm'.of (fun i hi => u82 i (by omega) (by omega) (by omega) (by omega) (by omega)) (fun p hp => by rw [u86, mc.2.1 p (by omega)]) (fun j hj => by rw [u85, mc.2.2 j (by omega)])
              have me2 := me.up93 (x := s.1)
              have U : ∀ q, q ≠ 82 → q ≠ 85 → q ≠ 86 → q ≠ 87 → (zx_up s.2 93 (24 * (c 2 - 1) + len (c 2 - 1)) s.1) q = (zx_up r' 93 (24 * (c 2 - 1) + len (c 2 - 1)) s.1) q := fun q b0 b1 b2 b3 => by
                by_cases e : q = 93
                · rw [e, zx_up_same, zx_up_same, uq 93 (by decide) (by decide) (by decide) (by decide)]
                · rw [zu_other e, zu_other e, uq q b0 b1 b2 b3]
              have pk2 := (pk.step hd rfl rfl l c4 CE me2).of (ν := zx_up s.2 93 (24 * (c 2 - 1) + len (c 2 - 1)) s.1) PX (fun q hq => U q (by omega) (by omega) (by omega) (by omega)) (fun i hi => by rw [zu_other (by decide), zu_other (by decide), u82 i (by omega) (by omega) (by omega) (by omega) (by omega)])
              refine zp_bind (zp_mono (h12 N' _ a _ d (by omega) hd (s1.up (by decide)) (nm2.up (by decide)) pk2 ?_) fun s hs => zp_some hs)
              have n17 : ∀ {pl : Nat} {w : Int64}, Nm s.2 pl w → Nm (zx_up s.2 93 (24 * (c 2 - 1) + len (c 2 - 1)) s.1) pl w := fun h => h.of (fun i hi => by rw [zu_other (by decide)]) (by rw [zu_other (by decide)])
              refine LAT.sj z1 zz3 z4 z5 pk rfl c1 rfl X24 Y23 hk ?_ (fun j hj => ?_) (fun l hl => n17 ((nms l hl).of (fun i hi => by rw [u85, mc.2.2 _ (by omega)]) (by rw [u86, mc.2.1 _ (by omega)]))) (fun l hl => ?_) (Or.inr ⟨by rw [zu_other (by decide)]; exact u19, n128, ?_, ?_, ?_⟩)
              · rw [U 92 (by decide) (by decide) (by decide) (by decide)]; exact me2.2.2.2.2.1
              · rw [U 92 (by decide) (by decide) (by decide) (by decide), U 93 (by decide) (by decide) (by decide) (by decide)]; exact me2.2.2.2.2.2.1 j hj
              · rw [zu_other (by decide), u87, zu_ne (by omega), me.1.1]
              · rw [Y23']
                exact n17 (nmz.of (fun i hi => by rw [u85]) (by rw [u86]))
              · rw [X24', zu_other (by decide), u87, zu_eq]
              · rw [zx_up_same, zu_eq]; exact hw
      · have q1' : so = 1 := Classical.not_not.mp q1
        rcases hso with h | h | h | h
        · rw [h.1] at q1'; exact absurd q1' (by decide)
        · rw [h.1] at q1'; exact absurd q1' (by decide)
        · exact Or.inr h.2.2.1
        · rw [h.1] at q1'; exact absurd q1' (by decide)
