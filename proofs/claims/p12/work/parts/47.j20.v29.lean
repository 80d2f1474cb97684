-- both answer alike
set_option maxRecDepth 2000
theorem p_asg {T : TS} {a N N' : Nat} {c : Nat → Nat} {ws : Nat → Nat → Int64} {nv : Nat} {wv : Nat → Int64} {len : Nat → Nat} {d : Nat} {ρ ρ0 : zS} {τ τ0 : zT} {μ μ0 : zS} {v1 v2 s0 xx kd : Int32} (pk : PKW c len d ρ μ) (la : LAT c ws len ρ τ μ) (vx : VX c len d ρ μ) (hd : 0 < d) (c4 : c 2 ≤ 4) (f : RXF ρ ρ0) (g : RTF τ τ0) (sx : SX T a ρ0 τ0) (ns : NNX c ws nv wv ρ0 τ0) (fm : RMF μ μ0) (sm : SM T a μ0) (nm : NSM c ws nv wv μ0) (hk : T.1 a = 3) (hs : s0 ≠ -1) (hv : (v2 ≠ 0 ∧ v1 ≠ -1 ∧ kd = 1 ∧ s0 = v1) ∨ (v2 = 0 ∧ v1 = -1 ∧ kd = 2)) : zp (zb_Reader_readSetting_78 N ρ0 τ0 v2 s0) (fun r => zp (zb_M_assign_56 N' μ0 v1 xx kd) (fun s => OUT T a c ws r.1 r.2 s)) := by
  have kk : ¬ T.1 a = 0 ∧ ¬ T.1 a = 1 := by rw [hk]; decide
  obtain ⟨q1, q2, q3, _⟩ := pk.2.2.2.2.2.1 hd
  obtain ⟨a1, a2, a3⟩ := pk.1 (c 2 - 1) (by omega)
  have t4 : c 2 - 1 < 4 := by omega
  have h8 : ρ0 29 8 = Int32.ofNat (c 2 - 1) := by rw [f.1 29 (by decide) (by decide) (by decide)]; exact q2
  have h5 : ρ0 5 (c 2 - 1) = Int32.ofNat (len (c 2 - 1)) := by rw [f.1 5 (by decide) (by decide) (by decide)]; exact a2
  have h39 : μ0 82 39 = Int32.ofNat (c 2 - 1) := by rw [fm.2.1 39 (by decide) (by decide) (by decide) (by decide) (by decide) (by decide) (by decide) (by decide)]; exact q3
  have h90 : μ0 90 (c 2 - 1) = Int32.ofNat (len (c 2 - 1)) := by rw [fm.1 90 (by decide) (by decide) (by decide)]; exact a3
  have pk0 := pk.rd f fm
  have la0 := la.rd f g fm
  unfold zb_Reader_readSetting_78
  refine zp_ite (fun q => absurd q hs) fun _ => zp_bind (zp_mono (p_X_room sx h8 t4 h5 a1).1 fun r10 h10 => ?_)
  rcases h10 with ⟨l, e⟩ | ⟨l, e⟩
  · refine zp_ite (fun q => absurd e q) fun _ => ?_
    unfold zb_Reader_readSetting_94
    refine zp_bind (zp_mono (p_X_fail (by decide)) fun r hr => zp_some ?_)
    rw [sx.p] at hr
    unfold zb_M_assign_56
    refine zp_bind (zp_mono (p_M_addStep h39 t4 h90 a1 sm.2.2.2) fun s hs' => ?_)
    rcases hs' with ⟨_, _, fl⟩ | ⟨l', _⟩
    · rw [sm.p] at fl
      exact zp_ite (fun q => absurd q fl.1) fun _ => zp_some (Or.inl ⟨_, hr.2, fl⟩)
    · omega
  · refine zp_ite (fun _ => ?_) fun q => absurd (by rw [e]; decide) q
    have ct : CT T c ws len d (c 2 - 1) (len (c 2 - 1)) ρ0 τ0 μ0 := ⟨pk0, la0, hd, rfl, rfl, l, t4, h8, h5, sm.1, vx.rd f fm⟩
    refine zp_bind (zp_mono (X.tk sm.1 sx ns kk) ?_)
    rintro r12 ⟨x1, x2, x3, x4, x5, x6⟩
    have ref : ∀ {Q : zS → Prop}, (∀ r6 r8 : zS, SM T (a + 1) r8 → NSM c ws nv wv r8 → MEx (c 2 - 1) (len (c 2 - 1)) kd μ0 r8 → r6 82 39 = Int32.ofNat (c 2 - 1) → r8 93 (24 * (c 2 - 1) + len (c 2 - 1)) = v1 → zp ((zf_M_take N' r8 61).bind fun r9 =>
    if (r9 82 9) = 0 then
      if 0 ≤ ((24 * (r6 82 39)) + Int32.ofNat (len (c 2 - 1))) ∧ ((24 * (r6 82 39)) + Int32.ofNat (len (c 2 - 1))) < 96 then
        if 0 ≤ ((24 * (r6 82 39)) + Int32.ofNat (len (c 2 - 1))) ∧ ((24 * (r6 82 39)) + Int32.ofNat (len (c 2 - 1))) < 96 then
          if ¬ v1 = (-1) then
            zb_M_assign_161 N' (zx_up (zx_up r9 98 ((24 * (r6 82 39)) + Int32.ofNat (len (c 2 - 1))).toNatClampNeg xx) 101 ((24 * (r6 82 39)) + Int32.ofNat (len (c 2 - 1))).toNatClampNeg 0) v1 ((24 * (r6 82 39)) + Int32.ofNat (len (c 2 - 1)))
          else
            if ¬ (r9 82 7) = 2 then
              zb_M_assign_161 N' (zx_up (zx_up r9 98 ((24 * (r6 82 39)) + Int32.ofNat (len (c 2 - 1))).toNatClampNeg xx) 101 ((24 * (r6 82 39)) + Int32.ofNat (len (c 2 - 1))).toNatClampNeg 0) v1 ((24 * (r6 82 39)) + Int32.ofNat (len (c 2 - 1)))
            else
              (zf_M_fieldHere N' (zx_up (zx_up r9 98 ((24 * (r6 82 39)) + Int32.ofNat (len (c 2 - 1))).toNatClampNeg xx) 101 ((24 * (r6 82 39)) + Int32.ofNat (len (c 2 - 1))).toNatClampNeg 0)).bind fun r28 =>
              if r28 = (-1) then
                zb_M_assign_161 N' (zx_up (zx_up r9 98 ((24 * (r6 82 39)) + Int32.ofNat (len (c 2 - 1))).toNatClampNeg xx) 101 ((24 * (r6 82 39)) + Int32.ofNat (len (c 2 - 1))).toNatClampNeg 0) v1 ((24 * (r6 82 39)) + Int32.ofNat (len (c 2 - 1)))
              else
                if 0 ≤ ((24 * (r6 82 39)) + Int32.ofNat (len (c 2 - 1))) ∧ ((24 * (r6 82 39)) + Int32.ofNat (len (c 2 - 1))) < 96 then
                  (zf_M_fieldHere N' (zx_up (zx_up (zx_up r9 98 ((24 * (r6 82 39)) + Int32.ofNat (len (c 2 - 1))).toNatClampNeg xx) 101 ((24 * (r6 82 39)) + Int32.ofNat (len (c 2 - 1))).toNatClampNeg 0) 92 ((24 * (r6 82 39)) + Int32.ofNat (len (c 2 - 1))).toNatClampNeg 0)).bind fun r31 =>
                  if 0 ≤ ((24 * (r6 82 39)) + Int32.ofNat (len (c 2 - 1))) ∧ ((24 * (r6 82 39)) + Int32.ofNat (len (c 2 - 1))) < 96 then
                    (zf_M_next N' (zx_up (zx_up (zx_up (zx_up r9 98 ((24 * (r6 82 39)) + Int32.ofNat (len (c 2 - 1))).toNatClampNeg xx) 101 ((24 * (r6 82 39)) + Int32.ofNat (len (c 2 - 1))).toNatClampNeg 0) 92 ((24 * (r6 82 39)) + Int32.ofNat (len (c 2 - 1))).toNatClampNeg 0) 93 ((24 * (r6 82 39)) + Int32.ofNat (len (c 2 - 1))).toNatClampNeg r31)).bind fun r33 =>
                    zb_M_assign_230 N' r33
                  else none
                else none
        else none
      else none
    else
      some (r9)) Q) → zp (zb_M_assign_56 N' μ0 v1 xx kd) Q := by
      intro Q h
      unfold zb_M_assign_56
      refine zp_bind (zp_mono (p_M_addStep h39 t4 h90 a1 sm.2.2.2) fun s hs' => ?_)
      rcases hs' with ⟨l', _⟩ | ⟨_, e1, as⟩
      · omega
      · have gg : ∀ q, q = 84 ∨ q = 85 ∨ q = 86 → s.2 q = μ0 q := fun q hq => as.1 q (by omega) (by omega) (by omega) (by omega) (by omega) (by omega) (by omega) (by omega) (by omega)
        have sm1 : SM T a s.2 := sm.of (gg 84 (by decide)) fun i hi => as.2.1 i (by omega)
        have nm1 : NSM c ws nv wv s.2 := nm.of (fun i hi => as.2.1 i (by omega)) (fun p _ => by rw [gg 86 (by decide)]) (fun p _ => by rw [gg 85 (by decide)])
        refine zp_ite (fun _ => zp_bind (zp_mono (M.tk sm1 nm1 kk) ?_)) fun q => absurd sm1.2.2.2 q
        rintro ν ⟨n1, n2, n3, n4⟩
        rw [e1]
        exact h s.2 ν n1 n2 ((MEx.of as).rd n4) (by rw [as.2.1 39 (by decide)]; exact h39) (by rw [n4.1 93 (by decide) (by decide) (by decide)]; exact as.2.2.2.2.1.2.1)
    refine zp_bind (zp_mono (p_take sm.1 x1 x2 (x := 61) (by decide)) fun r13 h13 => ?_)
    rcases h13 with ⟨e0, nk, fl, m1⟩ | ⟨e1, ek, sx', ns', xa, g', m1⟩
    · refine zp_ite (fun q => absurd e0 q) fun _ => zp_some (ref fun r6 r8 sm8 nm8 me e39 e93 => zp_bind (zp_mono (m1 N' r8 sm8) fun s hs' => zp_ite (fun q => absurd q hs'.1) fun _ => zp_some (Or.inl ⟨_, fl, hs'⟩)))
    · refine zp_ite (fun _ => ?_) fun q => absurd (by rw [e1]; decide) q
      rw [sx'.k, sx'.w]
      have F := x4.tr xa.xf
      have G := x5.tr (gRTF g')
      have S : ∀ {r8 r9 : zS} {i : Nat} {x y : Int32}, SM T (a + 1 + 1) r9 → NSM c ws nv wv r8 → NX0 r8 r9 → MEx (c 2 - 1) (len (c 2 - 1)) kd μ0 r8 → SM T (a + 1 + 1) (zx_up (zx_up r9 98 i x) 101 i y) ∧ NSM c ws nv wv (zx_up (zx_up r9 98 i x) 101 i y) ∧ MEx (c 2 - 1) (len (c 2 - 1)) kd μ0 (zx_up (zx_up r9 98 i x) 101 i y) := fun a1 a2 a3 a4 => ⟨(a1.up (by decide)).up (by decide), ((a2.nx a3).up (by decide)).up (by decide), ((a4.rd a3.mf).up (by decide)).up (by decide)⟩
      rcases hv with ⟨hv2, hv1, hkd, hsv⟩ | ⟨hv2, hv1, hkd⟩
      ·
        subst hkd
        have wr : ∀ s, zp (zb_Reader_readSetting_148 N r13.2.1 r13.2.2 v2 s0 s) (fun r => zp (zb_M_assign_56 N' μ0 v1 xx 1) (fun s => OUT T a c ws r.1 r.2 s)) := by
          intro s
          unfold zb_Reader_readSetting_148
          refine zp_ite (fun q => absurd q hv2) fun _ => zp_bind (zp_mono (p_write (a := a) (N' := N') ct (by omega) F G sx' ns') fun r hr => zp_some (ref fun r6 r8 sm8 nm8 me e39 e93 => zp_bind (zp_mono (m1 N' r8 sm8) ?_)))
          rintro r9 ⟨s9, f9⟩
          obtain ⟨b1, b2, b3⟩ := S (i := ((24 * (r6 82 39)) + Int32.ofNat (len (c 2 - 1))).toNatClampNeg) (x := xx) (y := 0) s9 nm8 f9 me
          exact zp_ite (fun _ => zp_chk fun _ => zp_chk fun _ => zp_ite (fun _ => hr _ v1 _ hv1 b1 b2 b3 (by rw [zu_other (by decide), zu_other (by decide), f9.1 93 (by decide), e93]; exact hsv)) fun q => absurd hv1 q) fun q => absurd s9.2.2.2 q
        exact zp_ite (fun _ => wr _) fun _ => zp_bind fun r _ => wr _
      · subst hkd hv1 hv2
        have sumc : ∀ {P : Prop}, P → (P → ∀ r9 : zS, SM T (a + 1 + 1) r9 → NSM c ws nv wv r9 → (T.1 (a + 2) = 3 → zp (zf_M_fieldHere N' r9) (fun r => r = -1))) → zp ((zf_Reader_readSum N r13.2.1 r13.2.2 s0).bind fun r18 => some (r18.1, r18.2)) (fun r => zp (zb_M_assign_56 N' μ0 (-1) xx 2) (fun s => OUT T a c ws r.1 r.2 s)) := by
          intro P hP hno
          refine zp_bind (zp_mono (p_sum (a := a) (N' := N') ct (by omega) F G sx' ns') fun r hr => zp_some (ref fun r6 r8 sm8 nm8 me e39 e93 => zp_bind (zp_mono (m1 N' r8 sm8) ?_)))
          rintro r9 ⟨s9, f9⟩
          obtain ⟨b1, b2, b3⟩ := S (i := ((24 * (r6 82 39)) + Int32.ofNat (len (c 2 - 1))).toNatClampNeg) (x := xx) (y := 0) s9 nm8 f9 me
          refine zp_ite (fun _ => zp_chk fun _ => zp_chk fun _ => zp_ite (fun q => absurd rfl q) fun _ => zp_ite (fun _ => hr _ _ b1 b2 b3) fun z => zp_bind (zp_mono (hno hP _ b1 b2 (s9.d.name.mp (Classical.not_not.mp z))) fun r28 h28 => zp_ite (fun _ => hr _ _ b1 b2 b3) fun q => absurd h28 q)) fun q => absurd s9.2.2.2 q
        refine zp_ite (fun z => ?_) fun z => ?_
        · unfold zb_Reader_readSetting_148
          exact zp_ite (fun _ => zp_ite (fun _ => sumc z fun z _ _ _ q => absurd q z) fun q => absurd rfl q) fun q => absurd rfl q
        · have z3 : T.1 (a + 1 + 1) = 3 := Classical.not_not.mp z
          obtain ⟨f2, l2, t2, w2, lq⟩ := LQ.ex ns'.1 ns'.2.1 (T.2.2.1 (a + 1 + 1))
          have lx := LX.mk ns'.1 ns'.2.1 lq
          refine zp_bind (zp_mono (lx.2.1 N) fun r21 h21 => ?_)
          subst h21
          unfold zb_Reader_readSetting_148
          refine zp_ite (fun _ => zp_ite (fun y => sumc y fun y r9 s9 n9 _ => ?_) fun y => ?_) fun q => absurd rfl q
          · refine zp_mono ((LM.mk n9 (s9.cur z3) lq).1 N') fun r hr => ?_
            rw [hr]; exact y
          · unfold zf_Reader_readRead
            have kk3 : ¬ T.1 (a + 1 + 1) = 0 ∧ ¬ T.1 (a + 1 + 1) = 1 := by rw [z3]; decide
            refine zp_bind (zp_bind (zp_mono (X.tk sm.1 sx' ns' kk3) ?_))
            rintro r1 ⟨y1, y2, y3, y4, y5, y6⟩
            refine zp_mono (p_fin (a := a) (N' := N') ct (by omega) (F.tr y4) (G.tr y5) y1 y2 (by decide)) fun r hr => zp_some (ref fun r6 r8 sm8 nm8 me e39 e93 => zp_bind (zp_mono (m1 N' r8 sm8) ?_))
            rintro r9 ⟨s9, f9⟩
            rw [e39, (z24 t4 (by omega)).2.1]
            obtain ⟨b1, b2, b3⟩ := S (i := 24 * (c 2 - 1) + len (c 2 - 1)) (x := xx) (y := 0) s9 nm8 f9 me
            refine zp_ite (fun _ => zp_chk fun _ => zp_chk fun _ => zp_ite (fun q => absurd rfl q) fun _ => zp_ite (fun q => absurd (s9.d.name.mpr z3) q) fun _ => zp_bind (zp_mono ((LM.mk b2 (b1.cur z3) lq).1 N') fun r28 h28 => zp_ite (fun q => absurd (h28.symm.trans q) y) fun _ => zp_chk fun _ => zp_bind (zp_mono ((LM.mk (b2.up (q := 92) (by decide)) ((b1.up (q := 92) (by decide)).cur z3) lq).1 N') fun r31 h31 => zp_chk fun _ => zp_bind (zp_mono (M.tk ((b1.up (q := 92) (by decide)).up (q := 93) (by decide)) ((b2.up (q := 92) (by decide)).up (q := 93) (by decide)) kk3) ?_)))) fun q => absurd s9.2.2.2 q
            rintro ν ⟨n1, n2, n3, n4⟩
            exact p_230 (hr ν n1 n2 (((b3.up92 (x := 0) (by decide) (by decide)).up93).rd n4) (SBJ.eq (by decide) (by rw [n4.1 93 (by decide) (by decide) (by decide), zx_up_same, zu_eq]; exact h31.symm)))
theorem s_set {T : TS} {a N N' : Nat} {c : Nat → Nat} {ws : Nat → Nat → Int64} {nv : Nat} {wv : Nat → Int64} {len : Nat → Nat} {d : Nat} {ρ : zS} {τ : zT} {μ : zS} (rl : RLX T a c ws nv wv len d ρ τ μ) (hd : 0 < d) (hk : T.1 a = 3) : zp (zf_Reader_readSetting N ρ τ) (fun r => zp (zf_M_statement N' μ) (fun s => OUT T a c ws r.1 r.2 s)) := by
  obtain ⟨sx, sm, ns, nm, pk, la, vx⟩ := rl
  have c4 := ns.1.c2
  rw [p_M_assign (sm.d.name.mpr hk)]
  obtain ⟨f, l, t, v, lq⟩ := LQ.ex ns.1 ns.2.1 (T.2.2.1 a)
  have lx := LX.mk ns.1 ns.2.1 lq
  have lm := LM.mk nm (sm.cur hk) lq
  have dj := lq.dj ns.1
  have fl25 : (f = -1 ∧ ¬ (f = -1 ∧ l = -1 ∧ t = -1)) → zp (zb_Reader_readSetting_25 N ρ τ) (fun r => zp ((zf_M_assign N' μ).bind fun r72 => some (r72)) (fun s => OUT T a c ws r.1 r.2 s)) := by
    intro h
    unfold zb_Reader_readSetting_25 zf_M_assign
    refine zp_bind (zp_mono (p_X_fail (by decide)) fun r hr => zp_some ?_)
    rw [sx.p] at hr
    refine zp_bind (zp_bind (zp_mono (lm.1 N') fun r1 h1 => zp_ite (fun q => absurd (h1.trans h.1) q) fun _ => zp_bind (zp_mono (lm.2.2.2.1 N') fun r35 h35 => zp_ite (fun q => ?_) fun _ => zp_bind (zp_mono (p_M_cannot sm.2.2.2) fun s hs => zp_some (zp_some (Or.inl ⟨_, hr.2, ?_⟩))))))
    · rcases h35 with h35 | h35
      · exact absurd h35.2 h.2
      · rw [h35.1] at q; exact absurd q (by decide)
    · rw [sm.p] at hs; exact hs
  unfold zf_Reader_readSetting
  rw [sx.w]
  refine zp_bind (zp_mono (lx.1 N) fun so hso => zp_ite (fun q => fl25 ?_) fun q1 => zp_ite (fun q2 => zp_ite (fun q3 => ?_) fun q3 => ?_) fun q2 => fl25 ?_)
  · rcases hso with h | h | h | h
    · rw [h.1] at q; exact absurd q (by decide)
    · rw [h.1] at q; exact absurd q (by decide)
    · exact ⟨h.2.1, fun x => h.2.2.1 x.2.1⟩
    · rw [h.1] at q; exact absurd q (by decide)
  ·
    have un : f = -1 ∧ l = -1 ∧ t = -1 := by
      rcases hso with h | h | h | h
      · exact h.2
      · exact absurd h.1 q3
      · exact absurd h.1 q1
      · exact absurd h.1 q2
    obtain ⟨uf, ul, ut⟩ := un
    subst uf ul ut
    have ref : ∀ {Q : zS → Prop}, zp (zf_M_local N' μ 1) (fun r34 => zp (zb_M_assign_36 N' r34.2 (-1) r34.1) Q) → zp ((zf_M_assign N' μ).bind fun r72 => some (r72)) Q := by
      intro Q h
      unfold zf_M_assign zb_M_assign_22
      refine zp_bind (zp_bind (zp_mono (lm.1 N') fun r1 h1 => zp_ite (fun q => absurd h1 q) fun _ => zp_bind (zp_mono (lm.2.2.2.1 N') fun r35 h35 => zp_ite (fun q => ?_) fun q => ?_)))
      · rw [h1]
        refine zp_ite (fun q => absurd rfl q) fun _ => zp_bind (zp_mono h fun r34 h34 => ?_)
        intro s e
        exact zp_some (h34 s e)
      · rcases h35 with h35 | h35
        · exact absurd h35.1 q
        · exact absurd ⟨rfl, rfl, rfl⟩ h35.2
    unfold zb_Reader_readSetting_41
    rw [sx.w]
    refine zp_ite (fun _ => zp_bind (zp_mono (p_X_makeLocal ns.1 ns.2.1 lq.2.2.2) fun r hr => ?_)) fun q => absurd rfl q
    rcases hr with ⟨hv, hr⟩ | ⟨hv, n3, hr⟩ | ⟨hv, n3, hr⟩
    · rw [hr]
      refine zp_mono (p_asg (N' := N') (v1 := -1) (xx := v) (kd := 2) pk la vx hd c4 RXF.rfl' RTF.rfl' sx ns RMF.rfl' sm nm hk hv (Or.inr ⟨rfl, rfl, rfl⟩)) fun r' h' => ref (zp_mono (p_M_local nm sm.2.2.2 (sm.cur hk) lq.2.2.2) fun s hs => ?_)
      unfold zb_M_assign_36
      rcases hs with hs | hs | hs | hs
      · rw [hs.2]
        exact zp_ite (fun _ => zp_ite (fun q => absurd rfl q) fun _ => h') fun q => absurd sm.2.2.2 q
      · exact absurd hs.1 hv
      · exact absurd hs.1 hv
      · exact absurd hs.1 hv
    · subst hv
      rw [hr]
      intro r' e'
      refine ref (zp_mono (p_M_local nm sm.2.2.2 (sm.cur hk) lq.2.2.2) fun s hs => ?_)
      unfold zb_M_assign_36
      rcases hs with hs | hs | hs | hs
      · exact absurd rfl hs.1
      · exact absurd hs.2.1 (by decide)
      · exact absurd hs.2.2.1 (by omega)
      · obtain ⟨_, _, _, y1, y2, y3, y4, y5⟩ := hs
        have sm' := sm.lcl y4 y5
        have h' := p_asg (N' := N') (v1 := -1) (xx := s.1) (kd := 2) pk la vx hd c4 RXF.lcl RTF.lcl sx.lcl (ns.lcl lq n3) y3 sm' y2 hk (zo_ne (by omega)) (Or.inr ⟨rfl, rfl, rfl⟩) r' e'
        exact zp_ite (fun _ => zp_ite (fun q => absurd rfl q) fun _ => h') fun q => absurd sm'.2.2.2 q
    · subst hv
      rw [hr]
      unfold zb_Reader_readSetting_78 zb_Reader_readSetting_94
      refine zp_ite (fun _ => zp_bind (zp_mono (p_X_fail (by decide)) fun r hr => zp_some ?_)) fun q => absurd rfl q
      dsimp only at hr
      rw [sx.p] at hr
      refine ref (zp_mono (p_M_local nm sm.2.2.2 (sm.cur hk) lq.2.2.2) fun s hs => ?_)
      unfold zb_M_assign_36
      rw [sm.p] at hs
      rcases hs with hs | hs | hs | hs
      · exact absurd rfl hs.1
      · exact absurd hs.2.1 (by decide)
      · exact zp_ite (fun q => absurd q hs.2.2.2.1) fun _ => zp_some (Or.inl ⟨_, hr.2, hs.2.2.2⟩)
      · exact absurd hs.2.2.1 (by omega)
  ·
    have q3' : so = 0 := Classical.not_not.mp q3
    have fn : f ≠ -1 := by
      rcases hso with h | h | h | h
      · rw [h.1] at q3'; exact absurd q3' (by decide)
      · exact h.2.1
      · rw [h.1] at q3'; exact absurd q3' (by decide)
      · rw [h.1] at q3'; exact absurd q3' (by decide)
    unfold zb_Reader_readSetting_41
    rw [sx.w, q3']
    refine zp_ite (fun q => absurd q (by decide)) fun _ => zp_bind (zp_mono (lx.2.1 N) fun r22 h22 => ?_)
    subst h22
    refine zp_mono (p_asg (N' := N') (v1 := r22) (xx := 0) (kd := 1) pk la vx hd c4 RXF.rfl' RTF.rfl' sx ns RMF.rfl' sm nm hk fn (Or.inl ⟨by decide, fn, rfl, rfl⟩)) fun r' h' => ?_
    unfold zf_M_assign zb_M_assign_22 zb_M_assign_36
    refine zp_bind (zp_bind (zp_mono (lm.1 N') fun r1 h1 => ?_))
    rw [h1]
    refine zp_ite (fun _ => zp_ite (fun _ => zp_ite (fun _ => zp_ite (fun _ => ?_) fun q => absurd fn q) fun q => absurd sm.2.2.2 q) fun q => absurd fn q) fun q => absurd fn q
    intro s e
    exact zp_some (h' s e)
  · have q2' : so = 2 := Classical.not_not.mp q2
    rcases hso with h | h | h | h
    · rw [h.1] at q2'; exact absurd q2' (by decide)
    · rw [h.1] at q2'; exact absurd q2' (by decide)
    · exact absurd h.1 q1
    · exact ⟨h.2.1, fun x => h.2.2.2 x.2.2⟩
