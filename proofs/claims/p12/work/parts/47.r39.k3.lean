-- both answer alike
set_option maxRecDepth 2000
theorem ADS.f98 {t L : Nat} {k x : Int32} {μ ν : zS} (h : ADS t L k x μ ν) : F98 μ ν := fun q a b => h.1 q (by omega) (by omega) (by omega) (by omega) (by omega) (by omega) (by omega) (by omega) (by omega)
theorem s_branchK {T : TS} {a N N' : Nat} {c : Nat → Nat} {ws : Nat → Nat → Int64} {nv : Nat} {wv : Nat → Int64} {len : Nat → Nat} {d : Nat} {ρ : zS} {τ : zT} {μ : zS} {k s : Int32} (rl : RLX T a c ws nv wv len d ρ τ μ) (hd : 0 < d) (kk : ¬ T.1 a = 0 ∧ ¬ T.1 a = 1) (kz : k = 5 ∨ k = 6) (wk : WKA ρ μ) : zp (zf_Reader_readBranch N ρ τ k s) (fun r => zp ((zf_M_addStep N' μ k (-1)).bind fun r59 => (zf_M_nextIfWell N' r59.2).bind fun r60 => (zf_M_test N' r60 r59.1).bind fun r61 => (zf_M_openBlock N' r61 s r59.1).bind fun r62 => some (r62)) (fun u => r.1 17 6 = 0 → WKA r.1 u)) := by
  obtain ⟨t4, h8, h5, hL, h39, h90⟩ := rl.th hd
  obtain ⟨sx, sm, ns, nm, pk, la, vx⟩ := rl
  unfold zf_Reader_readBranch
  refine zp_bind (zp_mono (p_X_room sx h8 t4 h5 hL).2 fun r1 hr => ?_)
  rcases hr with ⟨l, e, fl⟩ | ⟨l, e⟩
  · exact zp_ite (fun _ => zp_some fun u _ w => absurd w fl.1) fun q => absurd e q
  · subst e
    refine zp_ite (fun q => absurd q (show ¬ (1 : Int32) = 0 by decide)) fun _ => zp_bind (zp_mono (X.tk sm.1 sx ns kk) ?_)
    rintro r3 ⟨x1, x2, x3, x4, x5, x6⟩
    refine zp_bind (zp_mono (p_testK (N' := N') sm.1 l t4 h8 h5 x4 x1 x2) fun r4 h4 => zp_ite (fun e => zp_some fun u _ w => absurd w (h4.1 e)) fun ne => ?_)
    obtain ⟨y2, y3, y4, pt, mt⟩ := h4.2 ne
    refine zp_bind (zp_mono (wkb_f_Reader_openBlock (σ0 := r4.2.1) F57.rfl') fun r6 h6 => zp_some ?_)
    refine p_M_begin sm nm kk h39 t4 h90 hL (fun l' => by omega) fun _ r r' e1 as nx sm' nm' => ?_
    have e39 : r' 82 39 = Int32.ofNat (c 2 - 1) := by rw [nx.2 39 (by decide) (by decide) (by decide) (by decide), as.2.1 39 (by decide)]; exact h39
    rw [e1]
    refine zp_bind (zp_mono (mt r' sm' nm' e39) fun u hu => zp_bind (zp_mono (wkc_f_M_openBlock (σ0 := u) F98.rfl') fun v hv => zp_some fun _ => WKA.f57 (wk.put t4 l h5 pt (fun p a b j hj => ?_) ⟨fun q => ?_, fun q => ?_, fun q => ?_, fun _ => hu.1⟩) h6 hv))
    · rw [hu.2 p a b j hj, nx.1 p (by omega), as.f98 p a b]
    · rcases kz with e | e <;> rw [e] at q <;> exact absurd q (by decide)
    · rcases kz with e | e <;> rw [e] at q <;> exact absurd q (by decide)
    · rcases kz with e | e <;> rw [e] at q <;> exact absurd q (by decide)
theorem s_checkK {T : TS} {a N N' : Nat} {c : Nat → Nat} {ws : Nat → Nat → Int64} {nv : Nat} {wv : Nat → Int64} {len : Nat → Nat} {d : Nat} {ρ : zS} {τ : zT} {μ : zS} (rl : RLX T a c ws nv wv len d ρ τ μ) (hd : 0 < d) (hk : T.1 a = 312) (wk : WKA ρ μ) : zp (zf_Reader_readCheck N ρ τ) (fun r => zp (zf_M_statement N' μ) (fun u => r.1 17 6 = 0 → WKA r.1 u)) := by
  obtain ⟨t4, h8, h5, hL, h39, h90⟩ := rl.th hd
  obtain ⟨sx, sm, ns, nm, pk, la, vx⟩ := rl
  have kk : ¬ T.1 a = 0 ∧ ¬ T.1 a = 1 := by rw [hk]; decide
  rw [p_M_check (sm.k (x := 13) (by decide) hk)]
  unfold zf_Reader_readCheck
  refine zp_bind (zp_mono (p_X_room sx h8 t4 h5 hL).2 fun r1 hr => ?_)
  rcases hr with ⟨l, e, fl⟩ | ⟨l, e⟩
  · exact zp_ite (fun _ => zp_some fun u _ w => absurd w fl.1) fun q => absurd e q
  · subst e
    refine zp_ite (fun q => absurd q (show ¬ (1 : Int32) = 0 by decide)) fun _ => zp_bind (zp_mono (X.tk sm.1 sx ns kk) ?_)
    rintro r3 ⟨x1, x2, x3, x4, x5, x6⟩
    refine zp_bind (zp_mono (p_testK (N' := N') sm.1 l t4 h8 h5 x4 x1 x2) fun r4 h4 => zp_ite (fun e => zp_some fun u _ w => absurd w (h4.1 e)) fun ne => ?_)
    obtain ⟨y2, y3, y4, pt, mt⟩ := h4.2 ne
    refine zp_bind (zp_mono (wkb_f_Reader_expect (σ0 := r4.2.1) F57.rfl') fun r6 h6 => zp_some ?_)
    refine p_M_begin sm nm kk h39 t4 h90 hL (fun l' => by omega) fun _ r r' e1 as nx sm' nm' => ?_
    have e39 : r' 82 39 = Int32.ofNat (c 2 - 1) := by rw [nx.2 39 (by decide) (by decide) (by decide) (by decide), as.2.1 39 (by decide)]; exact h39
    rw [e1]
    refine zp_bind (zp_mono (mt r' sm' nm' e39) fun u hu => zp_bind (zp_mono (wkc_f_M_take (σ0 := u) F98.rfl') fun v hv => zp_some fun _ => WKA.f57 (wk.put t4 l h5 pt (fun p a b j hj => ?_) ⟨fun q => absurd q (by decide), fun q => absurd q (by decide), fun q => absurd q (by decide), fun _ => hu.1⟩) h6 hv))
    rw [hu.2 p a b j hj, nx.1 p (by omega), as.f98 p a b]
theorem s_setK {T : TS} {a N N' : Nat} {c : Nat → Nat} {ws : Nat → Nat → Int64} {nv : Nat} {wv : Nat → Int64} {len : Nat → Nat} {d : Nat} {ρ : zS} {τ : zT} {μ : zS} (rl : RLX T a c ws nv wv len d ρ τ μ) (hd : 0 < d) (hk : T.1 a = 3) (wk : WKA ρ μ) : zp (zf_Reader_readSetting N ρ τ) (fun r => zp (zf_M_statement N' μ) (fun s => r.1 17 6 = 0 → WKA r.1 s)) := by
  obtain ⟨sx, sm, ns, nm, pk, la, vx⟩ := rl
  have c4 := ns.1.c2
  rw [p_M_assign (sm.d.name.mpr hk)]
  obtain ⟨f, l, t, v, lq⟩ := LQ.ex ns.1 ns.2.1 (T.2.2.1 a)
  have lx := LX.mk ns.1 ns.2.1 lq
  have lm := LM.mk nm (sm.cur hk) lq
  have dj := lq.dj ns.1
  have fl25 : zp (zb_Reader_readSetting_25 N ρ τ) (fun r => zp ((zf_M_assign N' μ).bind fun r72 => some (r72)) (fun s => r.1 17 6 = 0 → WKA r.1 s)) := by
    unfold zb_Reader_readSetting_25
    exact zp_bind (zp_mono (p_X_fail (by decide)) fun r hr => zp_some fun s _ w => absurd w hr.2.1)
  unfold zf_Reader_readSetting
  rw [sx.w]
  refine zp_bind (zp_mono (lx.1 N) fun so hso => zp_ite (fun _ => fl25) fun q1 => zp_ite (fun q2 => zp_ite (fun q3 => ?_) fun q3 => ?_) fun _ => fl25)
  ·
    have un : f = -1 ∧ l = -1 ∧ t = -1 := by
      rcases hso with h | h | h | h
      · exact h.2
      · exact absurd h.1 q3
      · exact absurd h.1 q1
      · exact absurd h.1 q2
    obtain ⟨uf, ul, ut⟩ := un
    subst uf ul ut
    have ref : ∀ {Q : zS → Prop}, zp (zf_M_local N' μ 1) (fun r34 => zp (zb_M_assign_36 N' r34.2 (-1) r34.1) Q) → zp ((zf_M_assign N' μ).bind fun r72 => some (r72)) Q := by
      intro Q h
      unfold zf_M_assign zb_M_assign_22
      refine zp_bind (zp_bind (zp_mono (lm.1 N') fun r1 h1 => zp_ite (fun q => absurd h1 q) fun _ => zp_bind (zp_mono (lm.2.2.2.1 N') fun r35 h35 => zp_ite (fun q => ?_) fun q => ?_)))
      · rw [h1]
        refine zp_ite (fun q => absurd rfl q) fun _ => zp_bind (zp_mono h fun r34 h34 => ?_)
        intro s e
        exact zp_some (h34 s e)
      · rcases h35 with h35 | h35
        · exact absurd h35.1 q
        · exact absurd ⟨rfl, rfl, rfl⟩ h35.2
    unfold zb_Reader_readSetting_41
    rw [sx.w]
    refine zp_ite (fun _ => zp_bind (zp_mono (p_X_makeLocal ns.1 ns.2.1 lq.2.2.2) fun r hr => ?_)) fun q => absurd rfl q
    rcases hr with ⟨hv, hr⟩ | ⟨hv, n3, hr⟩ | ⟨hv, n3, hr⟩
    · rw [hr]
      refine zp_mono (p_asgK (N' := N') (v1 := -1) (xx := v) (kd := 2) pk hd c4 sx ns sm nm hk hv (Or.inr ⟨rfl, rfl, rfl, rfl⟩) wk) fun r' h' => ref (zp_mono (p_M_local nm sm.2.2.2 (sm.cur hk) lq.2.2.2) fun s hs => ?_)
      unfold zb_M_assign_36
      rcases hs with hs | hs | hs | hs
      · rw [hs.2]
        exact zp_ite (fun _ => zp_ite (fun q => absurd rfl q) fun _ => h') fun q => absurd sm.2.2.2 q
      · exact absurd hs.1 hv
      · exact absurd hs.1 hv
      · exact absurd hs.1 hv
    · subst hv
      rw [hr]
      intro r' e'
      refine ref (zp_mono (p_M_local nm sm.2.2.2 (sm.cur hk) lq.2.2.2) fun s hs => ?_)
      unfold zb_M_assign_36
      rcases hs with hs | hs | hs | hs
      · exact absurd rfl hs.1
      · exact absurd hs.2.1 (by decide)
      · exact absurd hs.2.2.1 (by omega)
      · obtain ⟨_, _, _, y1, y2, y3, y4, y5⟩ := hs
        have sm' := sm.lcl y4 y5
        have rx : RXF ρ (zx_up ρ 18 5 (Int32.ofNat (nv + 1))) := RXF.lcl
        have h' := p_asgK (N' := N') (v1 := -1) (xx := s.1) (kd := 2) (pk.rd RXF.lcl y3) hd c4 sx.lcl (ns.lcl lq n3) sm' y2 hk (zo_ne (by omega)) (Or.inr ⟨rfl, rfl, rfl, y1.symm⟩) (wk.f57 (F57.of fun q hq => RXF.lcl.1 q (by omega) (by omega) (by omega)) fun q a b => y3.1 q (by omega) (by omega) (by omega)) r' e'
        exact zp_ite (fun _ => zp_ite (fun q => absurd rfl q) fun _ => h') fun q => absurd sm'.2.2.2 q
    · subst hv
      rw [hr]
      unfold zb_Reader_readSetting_78 zb_Reader_readSetting_94
      exact zp_ite (fun _ => zp_bind (zp_mono (p_X_fail (by decide)) fun r hr => zp_some fun s _ w => absurd w hr.2.1)) fun q => absurd rfl q
  ·
    have q3' : so = 0 := Classical.not_not.mp q3
    have fn : f ≠ -1 := by
      rcases hso with h | h | h | h
      · rw [h.1] at q3'; exact absurd q3' (by decide)
      · exact h.2.1
      · rw [h.1] at q3'; exact absurd q3' (by decide)
      · rw [h.1] at q3'; exact absurd q3' (by decide)
    unfold zb_Reader_readSetting_41
    rw [sx.w, q3']
    refine zp_ite (fun q => absurd q (by decide)) fun _ => zp_bind (zp_mono (lx.2.1 N) fun r22 h22 => ?_)
    subst h22
    refine zp_mono (p_asgK (N' := N') (v1 := r22) (xx := 0) (kd := 1) pk hd c4 sx ns sm nm hk fn (Or.inl ⟨by decide, fn, rfl⟩) wk) fun r' h' => ?_
    unfold zf_M_assign zb_M_assign_22 zb_M_assign_36
    refine zp_bind (zp_bind (zp_mono (lm.1 N') fun r1 h1 => ?_))
    rw [h1]
    refine zp_ite (fun _ => zp_ite (fun _ => zp_ite (fun _ => zp_ite (fun _ => ?_) fun q => absurd fn q) fun q => absurd sm.2.2.2 q) fun q => absurd fn q) fun q => absurd fn q
    intro s e
    exact zp_some (h' s e)
theorem m_begin98 {N : Nat} {μ : zS} {k x : Int32} {F : Int32 × zS → zS → Option zS} {Q : zS → Prop} (h : ∀ r r', F98 μ r' → zp (F r r') Q) : zp ((zf_M_addStep N μ k x).bind fun r => (zf_M_nextIfWell N r.2).bind fun r' => F r r') Q := zp_bind (zp_mono (wkc_f_M_addStep (σ0 := μ) F98.rfl') fun r hr => zp_bind (zp_mono (wkc_f_M_nextIfWell hr) fun r' h' => h r r' h'))
theorem m_stop98 {N : Nat} {μ : zS} (h : μ 82 7 = 5 ∧ μ 82 8 = 14) : zp (zf_M_statement N μ) (fun s => F98 μ s) := by
  rw [p_M_stop h]
  exact m_begin98 fun r r' h' => zp_bind (zp_mono (wkc_f_M_take h') fun s hs => zp_some hs)
theorem m_wait98 {N : Nat} {μ : zS} (h : μ 82 7 = 5 ∧ μ 82 8 = 8) : zp (zf_M_statement N μ) (fun s => F98 μ s) := by
  rw [p_M_wait h]
  exact m_begin98 fun r r' h' => zp_bind (zp_mono (wkc_f_M_lockNamed h') fun u hu => zp_chk fun _ => zp_bind (zp_mono (wkc_f_M_take (F98.up (by decide) hu)) fun s hs => zp_some hs))
theorem m_wake98 {N : Nat} {μ : zS} (h : μ 82 7 = 5 ∧ μ 82 8 = 9) : zp (zf_M_statement N μ) (fun s => F98 μ s) := by
  rw [p_M_wake h]
  exact m_begin98 fun r r' h' => zp_ite (fun _ => wkc_b_M_statement_364 h') fun _ => zp_bind fun r45 _ => zp_ite (fun _ => wkc_b_M_statement_364 h') fun _ => zp_chk fun _ => zp_bind (zp_mono (wkc_f_M_next (F98.up (by decide) h')) fun u hu => wkc_b_M_statement_364 hu)
theorem m_lock98 {N : Nat} {μ : zS} (h : μ 82 7 = 5 ∧ μ 82 8 = 3) : zp (zf_M_statement N μ) (fun s => F98 μ s) := by
  rw [p_M_lock h]
  exact m_begin98 fun r r' h' => zp_bind (zp_mono (wkc_f_M_lockNamed h') fun u hu => zp_chk fun _ => zp_ite (fun _ => wkc_b_M_statement_153 (F98.up (by decide) hu)) fun _ => zp_chk fun _ => wkc_b_M_statement_153 (F98.up (by decide) (F98.up (by decide) hu)))
theorem m_span98 {N : Nat} {μ : zS} (h : μ 82 7 = 5 ∧ μ 82 8 = 15) : zp (zf_M_statement N μ) (fun s => F98 μ s) := by
  rw [p_M_span h]
  exact zp_ite (fun _ => zp_ite (fun _ => zp_bind (zp_mono (wkc_f_M_next (σ0 := μ) F98.rfl') fun u hu => zp_bind (zp_mono (wkc_f_M_openBlock hu) fun v hv => zp_chk fun _ => zp_some (F98.up (by decide) (F98.up (by decide) (F98.up (by decide) hv)))))) fun _ => zp_bind (zp_mono (wkc_f_M_fail (σ0 := μ) F98.rfl') fun u hu => zp_some hu)) fun _ => zp_bind (zp_mono (wkc_f_M_cannot (σ0 := μ) F98.rfl') fun u hu => zp_some hu)
theorem s_stmtK {T : TS} {a N N' : Nat} {c : Nat → Nat} {ws : Nat → Nat → Int64} {nv : Nat} {wv : Nat → Int64} {len : Nat → Nat} {d : Nat} {ρ : zS} {τ : zT} {μ : zS} (rl : RLX T a c ws nv wv len d ρ τ μ) (hd : 0 < d) (wk : WKA ρ μ) : zp (zf_Reader_readStatement N ρ τ) (fun r => (T.1 a = 125 → zp (zf_M_closeBlock N' μ) (fun s => r.1 17 6 = 0 → WKA r.1 s)) ∧ (T.1 a ≠ 125 → zp (zf_M_statement N' μ) (fun s => r.1 17 6 = 0 → WKA r.1 s))) := by
  have sx := rl.1
  have sm := rl.2.1
  unfold zf_Reader_readStatement
  rw [sx.k]
  have go : ∀ {o : Option (zS × zT)} {k : Int32}, T.1 a = k → k ≠ 125 → zp o (fun r => zp (zf_M_statement N' μ) (fun s => r.1 17 6 = 0 → WKA r.1 s)) → zp (o.bind fun r => some (r.1, r.2)) (fun r => (T.1 a = 125 → zp (zf_M_closeBlock N' μ) (fun s => r.1 17 6 = 0 → WKA r.1 s)) ∧ (T.1 a ≠ 125 → zp (zf_M_statement N' μ) (fun s => r.1 17 6 = 0 → WKA r.1 s))) := by
    intro o k e hk h
    exact p_wrap (zp_mono h fun r hr => ⟨fun q => absurd (e.symm.trans q) hk, fun _ => hr⟩)
  have fr : ∀ {o : Option (zS × zT)}, zp o (fun r => KF ρ r.1) → zp (zf_M_statement N' μ) (fun s => F98 μ s) → zp o (fun r => zp (zf_M_statement N' μ) (fun s => r.1 17 6 = 0 → WKA r.1 s)) := fun h g => zp_mono h fun r hr => zp_mono g fun s hs _ => wk.kf hr hs
  refine zp_ite (fun e => go e (by decide) (s_setK rl hd e wk)) fun n3 => zp_ite (fun e => p_wrap (zp_mono (wka_f_Reader_closeBlock (σ0 := ρ) KF.rfl') fun r hr => ⟨fun _ => zp_mono (wkc_f_M_closeBlock (σ0 := μ) F98.rfl') fun s hs _ => wk.kf hr hs, fun q => absurd e q⟩)) fun n125 => zp_ite (fun e => go e (by decide) (fr (wka_f_Reader_readLock KF.rfl') (m_lock98 (sm.k (x := 3) (by decide) e)))) fun n302 => zp_ite (fun e => go e (by decide) ?_) fun n304 => zp_ite (fun e => go e (by decide) ?_) fun n306 => zp_ite (fun e => go e (by decide) (fr (wka_f_Reader_readSignal KF.rfl') (m_wait98 (sm.k (x := 8) (by decide) e)))) fun n307 => zp_ite (fun e => go e (by decide) (fr (wka_f_Reader_readSignal KF.rfl') (m_wake98 (sm.k (x := 9) (by decide) e)))) fun n308 => zp_ite (fun e => go e (by decide) (fr (wka_f_Reader_readThreadStep KF.rfl') ?_)) fun n310 => zp_ite (fun e => go e (by decide) (fr (wka_f_Reader_readThreadStep KF.rfl') ?_)) fun n311 => zp_ite (fun e => go e (by decide) (s_checkK rl hd e wk)) fun n312 => zp_ite (fun e => go e (by decide) (fr (wka_f_Reader_readStop KF.rfl') (m_stop98 (sm.k (x := 14) (by decide) e)))) fun n313 => zp_ite (fun e => go e (by decide) (fr (wka_f_Reader_readSpan KF.rfl') (m_span98 (sm.k (x := 15) (by decide) e)))) fun n314 => ?_
  · rw [p_M_if (sm.k (x := 5) (by decide) e)]
    exact s_branchK rl hd (by rw [e]; decide) (by decide) wk
  · rw [p_M_while (sm.k (x := 7) (by decide) e)]
    exact s_branchK rl hd (by rw [e]; decide) (by decide) wk
  · rw [p_M_start (sm.k (x := 11) (by decide) e)]
    exact wkc_b_M_statement_402 F98.rfl'
  · rw [p_M_join (sm.k (x := 12) (by decide) e)]
    exact wkc_b_M_statement_402 F98.rfl'
  · exact zp_bind (zp_mono (p_X_fail (by decide)) fun r hr => zp_some ⟨fun q => absurd q n125, fun _ s _ w => absurd w hr.2.1⟩)
