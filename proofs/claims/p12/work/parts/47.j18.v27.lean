-- both answer alike
set_option maxRecDepth 2000
theorem s_branch {T : TS} {a N N' : Nat} {c : Nat → Nat} {ws : Nat → Nat → Int64} {nv : Nat} {wv : Nat → Int64} {len : Nat → Nat} {d : Nat} {ρ : zS} {τ : zT} {μ : zS} {k s : Int32} (rl : RLX T a c ws nv wv len d ρ τ μ) (hd : 0 < d) (kk : ¬ T.1 a = 0 ∧ ¬ T.1 a = 1) (hs : s ≠ 2) (nk : ¬ k = 10 ∧ ¬ k = 11) (kz : k = 5 ∨ k = 6) (hs35 : s = 3 ∨ s = 5) : zp (zf_Reader_readBranch N ρ τ k s) (fun r => zp ((zf_M_addStep N' μ k (-1)).bind fun r59 => (zf_M_nextIfWell N' r59.2).bind fun r60 => (zf_M_test N' r60 r59.1).bind fun r61 => (zf_M_openBlock N' r61 s r59.1).bind fun r62 => some (r62)) (fun s => OUT T a c ws r.1 r.2 s)) := by
  obtain ⟨t4, h8, h5, hL, h39, h90⟩ := rl.th hd
  obtain ⟨sx, sm, ns, nm, pk, la, vx⟩ := rl
  unfold zf_Reader_readBranch
  refine zp_bind (zp_mono (p_X_room sx h8 t4 h5 hL).2 fun r1 hr => ?_)
  rcases hr with ⟨l, e, fl⟩ | ⟨l, e⟩
  · refine zp_ite (fun _ => zp_some ?_) fun q => absurd e q
    refine p_M_begin sm nm kk h39 t4 h90 hL (fun _ r r' h' => zp_bind (zp_mono (p_F_test h') fun s hs => zp_bind (zp_mono (p_F_openBlock hs) fun s hs => zp_some (Or.inl ⟨_, fl, hs⟩)))) fun l' => by omega
  · subst e
    refine zp_ite (fun q => absurd q (show ¬ (1 : Int32) = 0 by decide)) fun _ => zp_bind (zp_mono (X.tk sm.1 sx ns kk) ?_)
    rintro r3 ⟨x1, x2, x3, x4, x5, x6⟩
    refine zp_bind (zp_mono (p_test (N' := N') (μ := μ) sm.1 l t4 h8 h5 x4 x5 x1 x2) ?_)
    rintro r4 (⟨e, p, fl, m⟩ | ⟨ne, nv', wv', b', hb, sx', ns', ce, e8, e7, g', m⟩)
    · refine zp_ite (fun _ => zp_some ?_) fun q => absurd e q
      refine p_M_begin sm nm kk h39 t4 h90 hL (fun l' => by omega) fun _ r r' e1 as nx sm' nm' => ?_
      have e39 : r' 82 39 = Int32.ofNat (c 2 - 1) := by rw [nx.2 39 (by decide) (by decide) (by decide) (by decide), as.2.1 39 (by decide)]; exact h39
      rw [e1]
      exact zp_bind (zp_mono (m r' sm' nm' e39) fun s hs => zp_bind (zp_mono (p_F_openBlock hs) fun s hs => zp_some (Or.inl ⟨_, fl, hs⟩)))
    · refine zp_ite (fun q => absurd q ne) fun _ => zp_bind (zp_mono (p_oblk (d := d) sm.1 sx' ns' (by rw [ce.2.2.2.2.2.2.2.1 6 (by decide)]; exact pk.2.2.2.2.1.2) ⟨hd, pk.2.2.2.2.1.1⟩ hs) fun r10 h10 => zp_some ?_)
      refine p_M_begin sm nm kk h39 t4 h90 hL (fun l' => by omega) fun _ r r' e1 as nx sm' nm' => ?_
      have e39 : r' 82 39 = Int32.ofNat (c 2 - 1) := by rw [nx.2 39 (by decide) (by decide) (by decide) (by decide), as.2.1 39 (by decide)]; exact h39
      rw [e1]
      refine zp_bind (zp_mono (m r' sm' nm' e39 ((MEx.of as).rd nx.mf)) ?_)
      rintro u ⟨u1, u2, u3⟩
      refine zp_bind (zp_mono (h10 N' u a _ _ (by omega) u1 u2 (pk.step hd rfl rfl l ns'.1.c2 ce u3) (la.step pk rfl rfl ce u3 (g' 23 (by decide) (by decide)) nk) (fun r1 r2 ν2 xa en o => vx.brn pk hd rfl rfl l ce u3 (SBJ.no (by rcases kz with q | q <;> rw [q] <;> decide) e8) kz hs35 xa (by rw [e7] at en; exact en) o)) fun s hs => zp_some hs)
theorem s_check {T : TS} {a N N' : Nat} {c : Nat → Nat} {ws : Nat → Nat → Int64} {nv : Nat} {wv : Nat → Int64} {len : Nat → Nat} {d : Nat} {ρ : zS} {τ : zT} {μ : zS} (rl : RLX T a c ws nv wv len d ρ τ μ) (hd : 0 < d) (hk : T.1 a = 312) : zp (zf_Reader_readCheck N ρ τ) (fun r => zp (zf_M_statement N' μ) (fun s => OUT T a c ws r.1 r.2 s)) := by
  obtain ⟨t4, h8, h5, hL, h39, h90⟩ := rl.th hd
  obtain ⟨sx, sm, ns, nm, pk, la, vx⟩ := rl
  have kk : ¬ T.1 a = 0 ∧ ¬ T.1 a = 1 := by rw [hk]; decide
  rw [p_M_check (sm.k (x := 13) (by decide) hk)]
  unfold zf_Reader_readCheck
  refine zp_bind (zp_mono (p_X_room sx h8 t4 h5 hL).2 fun r1 hr => ?_)
  rcases hr with ⟨l, e, fl⟩ | ⟨l, e⟩
  · refine zp_ite (fun _ => zp_some ?_) fun q => absurd e q
    refine p_M_begin sm nm kk h39 t4 h90 hL (fun _ r r' h' => zp_bind (zp_mono (p_F_test h') fun s hs => zp_bind (zp_mono (p_F_take hs) fun s hs => zp_some (Or.inl ⟨_, fl, hs⟩)))) fun l' => by omega
  · subst e
    refine zp_ite (fun q => absurd q (show ¬ (1 : Int32) = 0 by decide)) fun _ => zp_bind (zp_mono (X.tk sm.1 sx ns kk) ?_)
    rintro r3 ⟨x1, x2, x3, x4, x5, x6⟩
    refine zp_bind (zp_mono (p_test (N' := N') (μ := μ) sm.1 l t4 h8 h5 x4 x5 x1 x2) ?_)
    rintro r4 (⟨e, p, fl, m⟩ | ⟨ne, nv', wv', b', hb, sx', ns', ce, e8, e7, g', m⟩)
    · refine zp_ite (fun _ => zp_some ?_) fun q => absurd e q
      refine p_M_begin sm nm kk h39 t4 h90 hL (fun l' => by omega) fun _ r r' e1 as nx sm' nm' => ?_
      have e39 : r' 82 39 = Int32.ofNat (c 2 - 1) := by rw [nx.2 39 (by decide) (by decide) (by decide) (by decide), as.2.1 39 (by decide)]; exact h39
      rw [e1]
      exact zp_bind (zp_mono (m r' sm' nm' e39) fun s hs => zp_bind (zp_mono (p_F_take hs) fun s hs => zp_some (Or.inl ⟨_, fl, hs⟩)))
    · refine zp_ite (fun q => absurd q ne) fun _ => zp_bind (zp_mono (p_semi sm.1 sx' ns') fun r10 h10 => zp_some ?_)
      refine p_M_begin sm nm kk h39 t4 h90 hL (fun l' => by omega) fun _ r r' e1 as nx sm' nm' => ?_
      have e39 : r' 82 39 = Int32.ofNat (c 2 - 1) := by rw [nx.2 39 (by decide) (by decide) (by decide) (by decide), as.2.1 39 (by decide)]; exact h39
      rw [e1]
      refine zp_bind (zp_mono (m r' sm' nm' e39 ((MEx.of as).rd nx.mf)) ?_)
      rintro u ⟨u1, u2, u3⟩
      refine zp_bind (zp_mono (h10 N' u a _ d (by omega) hd u1 u2 (pk.step hd rfl rfl l ns'.1.c2 ce u3) (la.step pk rfl rfl ce u3 (g' 23 (by decide) (by decide)) (by decide)) (vx.step pk hd rfl rfl l ce u3 (SBJ.no (by decide) e8)).1) fun s hs => zp_some hs)
theorem PKW.span {c len : Nat → Nat} {d : Nat} {m st : Int32} {ρ ρ1 μ r ν : zS} (h : PKW c len d ρ μ) (hd : 0 < d) (d8 : d < 8) (x : XA0 ρ ρ1) (e : ENT 2 m d ρ1 r) (o : OBM 2 st d μ ν) {i : Nat} {z : Int32} (h6 : ν 82 25 < 6) : PKW c len (d + 1) r (zx_up (zx_up (zx_up ν 82 41 (ν 82 25)) 91 i z) 82 25 (ν 82 25 + 1)) := by
  obtain ⟨p1, p2, p3, p4, p5, p6, p7⟩ := h
  obtain ⟨e1, e2, e3, e4, e5, e6, e7⟩ := e
  obtain ⟨o1, o2, o3, o4, o5⟩ := o
  obtain ⟨q1, q2, q3, q4, q5, q6⟩ := p6 hd
  have r5 : r 5 = ρ 5 := by rw [e1 5 (by decide) (by decide) (by decide) (by decide) (by decide) (by decide) (by decide), x.1 5 (by decide)]
  have r7 : r 7 = ρ 7 := by rw [e1 7 (by decide) (by decide) (by decide) (by decide) (by decide) (by decide) (by decide), x.1 7 (by decide)]
  have n90 : ν 90 = μ 90 := o1 90 (by decide) (by decide) (by decide) (by decide)
  have n92 : ν 92 = μ 92 := o1 92 (by decide) (by decide) (by decide) (by decide)
  have n25 : ν 82 25 = μ 82 25 := o2 25 (by decide) (by decide) (by decide) (by decide) (by decide)
  have u : ∀ q, q ≠ 82 → q ≠ 91 → (zx_up (zx_up (zx_up ν 82 41 (ν 82 25)) 91 i z) 82 25 (ν 82 25 + 1)) q = ν q := fun q a b => by rw [zu_other a, zu_other b, zu_other a]
  have u82 : ∀ j, j ≠ 25 → j ≠ 41 → (zx_up (zx_up (zx_up ν 82 41 (ν 82 25)) 91 i z) 82 25 (ν 82 25 + 1)) 82 j = ν 82 j := fun j a b => by rw [zx_up_same, zu_ne a, zu_other (by decide), zx_up_same, zu_ne b]
  rcases e7 with e7 | e7
  · have u25 : (zx_up (zx_up (zx_up ν 82 41 (ν 82 25)) 91 i z) 82 25 (ν 82 25 + 1)) 82 25 = ρ 4 3 + 1 := by rw [zx_up_same, zu_eq, n25, p4.1]
    have u41 : (zx_up (zx_up (zx_up ν 82 41 (ν 82 25)) 91 i z) 82 25 (ν 82 25 + 1)) 82 41 = ρ 4 3 := by rw [zx_up_same, zu_ne (by decide), zu_other (by decide), zx_up_same, zu_eq, n25, p4.1]
    refine ⟨fun t ht => by rw [r5, u 90 (by decide) (by decide), n90]; exact p1 t ht, fun t a b => by rw [r5]; exact p2 t a b, by rw [e6 4 (by decide), x.1 4 (by decide)]; exact p3, by rw [e7.2.2.1, x.1 4 (by decide), u25]; exact ⟨rfl, by rw [n25, ← p4.1] at h6; generalize ρ 4 3 = w at h6 ⊢; clear u25 u41; grind⟩, ⟨by omega, e4⟩, fun _ => ⟨q1, by rw [e5 8 (by decide) (by decide) (by decide), x.1 29 (by decide)]; exact q2, by rw [u82 39 (by decide) (by decide), o2 39 (by decide) (by decide) (by decide) (by decide) (by decide)]; exact q3, by rw [e7.2.1, x.1 4 (by decide), u41], by rw [u82 46 (by decide) (by decide)]; exact o3, fun i hi => ?_⟩, fun t s ht hs => by rw [r7, u 92 (by decide) (by decide), n92]; exact p7 t s ht hs⟩
    rw [u 103 (by decide) (by decide)]
    by_cases q : i = d
    · rw [q, e2.1, o4.1]
    · rw [(e3 i q).1, (o5 i q).1, x.1 30 (by decide)]; exact q6 i (by omega)
  · exact absurd rfl e7.1
theorem s_span {T : TS} {a N' : Nat} {c : Nat → Nat} {ws : Nat → Nat → Int64} {nv : Nat} {wv : Nat → Int64} {len : Nat → Nat} {d : Nat} {ρ : zS} {τ : zT} {μ : zS} (rl : RLX T a c ws nv wv len d ρ τ μ) (hd : 0 < d) (hk : T.1 a = 314) : zp (zf_Reader_readSpan ρ τ) (fun r => zp (zf_M_statement N' μ) (fun s => OUT T a c ws r.1 r.2 s)) := by
  obtain ⟨sx, sm, ns, nm, pk, la, vx⟩ := rl
  have kk : ¬ T.1 a = 0 ∧ ¬ T.1 a = 1 := by rw [hk]; decide
  rw [p_M_span (sm.k (x := 15) (by decide) hk)]
  obtain ⟨q1, q2, q3, q4, q5, q6⟩ := pk.2.2.2.2.2.1 hd
  have p4 := pk.2.2.2.1.1
  have h6 := pk.2.2.2.1.2
  have fl : ∀ k : Int32, k ≠ 0 → ∀ {Q : zS × zT → Prop}, (∀ r : zS, XFl r (T.2.1 a) → Q (r, τ)) → zp ((zf_Reader_failHere ρ k).bind fun r => some (r.2, τ)) Q := by
    intro k hk Q h
    refine zp_bind (zp_mono (p_X_fail hk) fun r hr => zp_some (h _ ?_))
    rw [sx.p] at hr
    exact hr.2
  unfold zf_Reader_readSpan zf_Weaver_isInSpan
  refine zp_bind ?_
  by_cases sp : ρ 29 12 = -1
  · rw [if_pos sp]
    refine zp_some (zp_ite (fun _ => zp_ite (fun z => ?_) fun z => fl 4 (by decide) fun r hr => ?_) fun q => absurd rfl q)
    · refine zp_bind (zp_mono (X.tk sm.1 sx ns kk) ?_)
      rintro r3 ⟨x1, x2, x3, x4, x5, x6⟩
      refine zp_bind (zp_mono (p_open (d := d) (s := 2) (m := -1) sm.1 x1 x2 (by rw [x3.1 29 (by decide)]; exact pk.2.2.2.2.1.2) pk.2.2.2.2.1.1) fun r hr => zp_some ?_)
      refine zp_ite (fun _ => zp_ite (fun _ => zp_bind (zp_mono (M.tk sm nm kk) ?_)) fun y => ?_) fun y => absurd (q4 ▸ sp) y
      · rintro ν ⟨n1, n2, n3, n4⟩
        have h46 : ν 82 46 = Int32.ofNat d := by rw [n3.2 46 (by decide) (by decide) (by decide) (by decide)]; exact q5
        rcases hr with ⟨fl, m1⟩ | ⟨d8, sx', nx', ⟨ρ1, xa, en⟩, g, m1⟩
        · refine zp_bind (zp_mono (m1 N' ν 0 n1 h46) fun s hs => zp_chk fun _ => zp_some (Or.inl ⟨_, fl, ?_⟩))
          unfold MFl at *
          rw [zx_up_same, zu_ne (by decide), zu_ne (by decide), zu_other (by decide), zx_up_same, zu_ne (by decide), zu_ne (by decide)]
          exact hs
        · refine zp_bind (zp_mono (m1 N' ν 0 n1 h46) ?_)
          rintro s ⟨s1, o⟩
          refine zp_chk fun cc => zp_some (Or.inr ⟨a + 1 + 1, nv, wv, len, d + 1, by omega, fun q => absurd q (Nat.succ_ne_zero d), sx', ?_, nx', ?_, (pk.rd x4 n4).span hd d8 xa en o cc.2, ?_, ?_⟩)
          · refine s1.of (by rw [zu_other (by decide), zu_other (by decide), zu_other (by decide)]) fun i hi => ?_
            rw [zx_up_same, zu_ne (by omega), zu_other (by decide), zx_up_same, zu_ne (by omega)]
          · refine (n2.opn o).of (fun i hi => ?_) (fun p _ => by rw [zu_other (by decide), zu_other (by decide), zu_other (by decide)]) (fun p _ => by rw [zu_other (by decide), zu_other (by decide), zu_other (by decide)])
            rw [zx_up_same, zu_ne (by omega), zu_other (by decide), zx_up_same, zu_ne (by omega)]
          · have u : ∀ {i : Nat} {z : Int32} q, q ≠ 82 → q ≠ 91 → (zx_up (zx_up (zx_up s 82 41 (s 82 25)) 91 i z) 82 25 (s 82 25 + 1)) q = s q := fun q a b => by rw [zu_other a, zu_other b, zu_other a]
            refine ((la.rd x4 x5 n4).opn xa en o g).of rfl rfl ?_ (u 87 (by decide) (by decide)) (u 92 (by decide) (by decide)) (u 93 (by decide) (by decide)) (fun p _ => by rw [u 86 (by decide) (by decide)]) (fun p _ => by rw [u 85 (by decide) (by decide)])
            rw [zx_up_same, zu_ne (by decide), zu_other (by decide), zx_up_same, zu_ne (by decide)]
          · refine ((vx.rd x4 n4).spn hd xa en o).of (fun _ _ => rfl) (fun _ _ => rfl) (fun q hq => by rw [zu_other (by omega), zu_other (by omega), zu_other (by omega)]) ⟨?_, ?_⟩
            · rw [zx_up_same, zu_ne (by decide), zu_other (by decide), zx_up_same, zu_ne (by decide)]
            · rw [zx_up_same, zu_ne (by decide), zu_other (by decide), zx_up_same, zu_ne (by decide)]
      · exfalso
        rw [← p4] at y
        have := Classical.not_not.mp y
        rw [this] at z
        exact absurd z (by decide)
    · have e6 : ρ 4 3 = 6 := Int32.le_antisymm h6 (Int32.not_lt.mp z)
      refine zp_ite (fun _ => zp_ite (fun y => absurd (p4 ▸ e6) y) fun _ => zp_bind (zp_mono (p_M_fail sm.2.2.2) fun s hs => zp_some (Or.inl ⟨_, hr, ?_⟩))) fun y => absurd (q4 ▸ sp) y
      rw [sm.p] at hs
      exact hs
  · rw [if_neg sp]
    refine zp_some (zp_ite (fun q => absurd q (by decide)) fun _ => fl 2 (by decide) fun r hr => ?_)
    refine zp_ite (fun y => absurd (q4.trans y) sp) fun _ => zp_bind (zp_mono (p_M_cannot sm.2.2.2) fun s hs => zp_some (Or.inl ⟨_, hr, ?_⟩))
    rw [sm.p] at hs
    exact hs
