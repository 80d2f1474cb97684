-- both answer alike
set_option maxRecDepth 2000
theorem PKW.opn {c len : Nat → Nat} {d : Nat} {s m st : Int32} {ρ ρ1 μ r ν : zS} (h : PKW c len d ρ μ) (hd : 0 < d) (d8 : d < 8) (x : XA0 ρ ρ1) (e : ENT s m d ρ1 r) (o : OBM s st d μ ν) (hs : s ≠ 2) : PKW c len (d + 1) r ν := by
  obtain ⟨p1, p2, p3, p4, p5, p6, p7⟩ := h
  obtain ⟨e1, e2, e3, e4, e5, e6, e7⟩ := e
  obtain ⟨o1, o2, o3, o4, o5⟩ := o
  obtain ⟨q1, q2, q3, q4, q5, q6⟩ := p6 hd
  have r5 : r 5 = ρ 5 := by rw [e1 5 (by decide) (by decide) (by decide) (by decide) (by decide) (by decide) (by decide), x.1 5 (by decide)]
  have r7 : r 7 = ρ 7 := by rw [e1 7 (by decide) (by decide) (by decide) (by decide) (by decide) (by decide) (by decide), x.1 7 (by decide)]
  have n90 : ν 90 = μ 90 := o1 90 (by decide) (by decide) (by decide) (by decide)
  have n92 : ν 92 = μ 92 := o1 92 (by decide) (by decide) (by decide) (by decide)
  rcases e7 with e7 | e7
  · exact absurd e7.1 hs
  refine ⟨fun t ht => by rw [r5, n90]; exact p1 t ht, fun t a b => by rw [r5]; exact p2 t a b, by rw [e6 4 (by decide), x.1 4 (by decide)]; exact p3, by rw [e7.2.2.1, x.1 4 (by decide), o2 25 (by decide) (by decide) (by decide) (by decide) (by decide)]; exact p4, ⟨by omega, e4⟩, fun _ => ⟨q1, by rw [e5 8 (by decide) (by decide) (by decide), x.1 29 (by decide)]; exact q2, by rw [o2 39 (by decide) (by decide) (by decide) (by decide) (by decide)]; exact q3, by rw [e7.2.1, x.1 29 (by decide), o2 41 (by decide) (by decide) (by decide) (by decide) (by decide)]; exact q4, o3, fun i hi => ?_⟩, fun t s ht hs => by rw [r7, n92]; exact p7 t s ht hs⟩
  by_cases q : i = d
  · rw [q, e2.1, o4.1]
  · rw [(e3 i q).1, (o5 i q).1, x.1 30 (by decide)]; exact q6 i (by omega)
theorem LAT.opn {c : Nat → Nat} {ws : Nat → Nat → Int64} {len : Nat → Nat} {d : Nat} {s m st : Int32} {ρ ρ1 μ r ν : zS} {τ υ : zT} (h : LAT c ws len ρ τ μ) (x : XA0 ρ ρ1) (e : ENT s m d ρ1 r) (o : OBM s st d μ ν) (g : ∀ q, q ≠ 25 → υ q = τ q) : LAT c ws len r υ ν := by
  have n : ∀ q, q = 85 ∨ q = 86 ∨ q = 87 ∨ q = 92 ∨ q = 93 → ν q = μ q := fun q hq => o.1 q (by omega) (by omega) (by omega) (by omega)
  exact h.of (by rw [e.1 24 (by decide) (by decide) (by decide) (by decide) (by decide) (by decide) (by decide), x.1 24 (by decide)]) (g 23 (by decide)) (o.2.1 19 (by decide) (by decide) (by decide) (by decide) (by decide)) (n 87 (by decide)) (n 92 (by decide)) (n 93 (by decide)) (fun p _ => by rw [n 86 (by decide)]) (fun p _ => by rw [n 85 (by decide)])
theorem NSM.opn {c : Nat → Nat} {ws : Nat → Nat → Int64} {nv : Nat} {wv : Nat → Int64} {d : Nat} {s st : Int32} {μ ν : zS} (h : NSM c ws nv wv μ) (o : OBM s st d μ ν) : NSM c ws nv wv ν :=
  h.of (fun i hi => o.2.1 i (by omega) (by omega) (by omega) (by omega) (by omega)) (fun p _ => by rw [o.1 86 (by decide) (by decide) (by decide) (by decide)]) (fun p _ => by rw [o.1 85 (by decide) (by decide) (by decide) (by decide)])
theorem p_oblk {T : TS} {a d : Nat} {c : Nat → Nat} {ws : Nat → Nat → Int64} {nv : Nat} {wv : Nat → Int64} {ρ : zS} {τ : zT} {b : Nat → Int32} {n s m : Int32} (tb : TB b n T.1 T.2.1 T.2.2.1 T.2.2.2.1 T.2.2.2.2) (h : SX T a ρ τ) (ns : NNX c ws nv wv ρ τ) (h6 : ρ 29 6 = Int32.ofNat d) (hd : 0 < d ∧ d ≤ 8) (hs : s ≠ 2) : zp (zf_Reader_openBlock ρ τ s m) (fun r => ∀ N μ a0 len st, a0 ≤ a → SM T a μ → NSM c ws nv wv μ → PKW c len d ρ μ → LAT c ws len ρ τ μ → (∀ r1 r2 ν2, XA0 ρ r1 → ENT s m d r1 r2 → OBM s st d μ ν2 → VX c len (d + 1) r2 ν2) → zp (zf_M_openBlock N μ s st) (fun s => OUT T a0 c ws r.1 r.2 s)) := by
  refine zp_mono (p_open tb h ns h6 hd.2) fun r hr N μ a0 len st ha sm nm pk la vx => ?_
  have h46 := (pk.2.2.2.2.2.1 hd.1).2.2.2.2.1
  rcases hr with ⟨fl, m1⟩ | ⟨d8, sx, nx, ⟨ρ1, xa, en⟩, g, m1⟩
  · exact zp_mono (m1 N μ st sm h46) fun s hs => Or.inl ⟨_, fl, hs⟩
  · refine zp_mono (m1 N μ st sm h46) ?_
    rintro ν ⟨sm', o⟩
    exact Or.inr ⟨a + 1, nv, wv, len, d + 1, by omega, fun q => absurd q (Nat.succ_ne_zero d), sx, sm', nx, nm.opn o, pk.opn hd.1 d8 xa en o hs, la.opn xa en o g, vx _ _ _ xa en o⟩
theorem s_lock {T : TS} {a N N' : Nat} {c : Nat → Nat} {ws : Nat → Nat → Int64} {nv : Nat} {wv : Nat → Int64} {len : Nat → Nat} {d : Nat} {ρ : zS} {τ : zT} {μ : zS} (rl : RLX T a c ws nv wv len d ρ τ μ) (hd : 0 < d) (hk : T.1 a = 302) : zp (zf_Reader_readLock N ρ τ) (fun r => zp (zf_M_statement N' μ) (fun s => OUT T a c ws r.1 r.2 s)) := by
  obtain ⟨t4, h8, h5, hL, h39, h90⟩ := rl.th hd
  obtain ⟨sx, sm, ns, nm, pk, la, vx⟩ := rl
  have kk : ¬ T.1 a = 0 ∧ ¬ T.1 a = 1 := by rw [hk]; decide
  rw [p_M_lock (sm.k (x := 3) (by decide) hk)]
  unfold zf_Reader_readLock zb_M_statement_153
  refine zp_bind (zp_mono (p_X_room sx h8 t4 h5 hL).2 fun r1 hr => ?_)
  rcases hr with ⟨l, e, fl⟩ | ⟨l, e⟩
  · refine zp_ite (fun _ => zp_some ?_) fun q => absurd e q
    refine p_M_begin sm nm kk h39 t4 h90 hL (fun _ r r' h' => zp_bind (zp_mono (p_F_lockNamed h') fun s hs => zp_chk fun _ => zp_ite (fun _ => zp_bind (zp_mono (p_F_openBlock (hs.up (by decide))) fun s hs => zp_some (Or.inl ⟨_, fl, hs⟩))) fun q => absurd (Classical.not_not.mp q) hs.1)) fun l' => by omega
  · subst e
    refine zp_ite (fun q => absurd q (show ¬ (1 : Int32) = 0 by decide)) fun _ => zp_bind (zp_mono (X.tk sm.1 sx ns kk) ?_)
    rintro r3 ⟨x1, x2, x3, x4, x5, x6⟩
    refine zp_bind (zp_mono (p_locks sm.1 x1 x2 N') ?_)
    rintro r6 ⟨-, ⟨e, fl, m⟩ | ⟨ne, nv', wv', sx', ns', f', g', m⟩⟩
    · refine zp_ite (fun _ => zp_some ?_) fun q => absurd e q
      refine p_M_begin sm nm kk h39 t4 h90 hL (fun l' => by omega) fun _ r r' e1 as nx sm' nm' => zp_bind (zp_mono (m r' sm' nm') fun s hs => zp_chk fun _ => zp_ite (fun _ => zp_bind (zp_mono (p_F_openBlock (hs.up (by decide))) fun s hs => zp_some (Or.inl ⟨_, fl, hs⟩))) fun q => absurd (Classical.not_not.mp q) hs.1)
    · have f2 := x4.tr f'
      have g2 := x5.tr g'
      have e29 : r6.2.1 29 = ρ 29 := f2.1 29 (by decide) (by decide) (by decide)
      have e5 : r6.2.1 5 = ρ 5 := f2.1 5 (by decide) (by decide) (by decide)
      refine zp_ite (fun q => absurd q ne) fun _ => zp_bind (zp_mono (p_X_emit (t := c 2 - 1) (L := len (c 2 - 1)) (by rw [e29]; exact h8) t4 (by rw [e5]; exact h5) l) fun r9 em => ?_)
      have ce := CEx.of f2 em
      refine zp_bind (zp_mono (p_oblk (d := d) sm.1 (sx'.em em) (ns'.em em) (by rw [ce.2.2.2.2.2.2.2.1 6 (by decide)]; exact pk.2.2.2.2.1.2) ⟨hd, pk.2.2.2.2.1.1⟩ (by decide)) fun r10 h10 => zp_some ?_)
      refine p_M_begin sm nm kk h39 t4 h90 hL (fun l' => by omega) fun _ r r' e1 as nx sm' nm' => ?_
      rw [e1, h39, (z24 t4 (by omega)).2.1]
      refine zp_bind (zp_mono (m r' sm' nm') ?_)
      rintro s ⟨s1, s2, s3, s4⟩
      have me := ((((MEx.of as).rd nx.mf).rd s4).up93 (x := s.1))
      refine zp_chk fun _ => zp_ite (fun q => absurd s2.2.2.2 q) fun _ => zp_chk fun _ => zp_bind (zp_mono (h10 N' _ a _ _ (by omega) ?_ ?_ (pk.step hd rfl rfl l ns'.1.c2 ce me).h40 (la.step pk rfl rfl ce me (g2 23 (by decide) (by decide)) (by decide)).h40 (fun r1 r2 ν2 xa en o => vx.lck pk hd rfl rfl l ce me em.2.2.2.2.2.1.2.1 (by rw [zx_up_same, zu_eq]; exact s1) (by rw [zu_other (by decide), s1]) xa en o)) fun s hs => zp_some hs)
      · refine (s2.up (q := 93) (by decide)).of (zu_other (by decide)) fun i hi => ?_
        rw [zx_up_same, zu_ne (by omega)]
      · refine (s3.up (q := 93) (by decide)).of (fun i hi => ?_) (fun p _ => by rw [zu_other (by decide)]) (fun p _ => by rw [zu_other (by decide)])
        rw [zx_up_same, zu_ne (by omega)]
theorem p_test {T : TS} {b t L N N' : Nat} {c : Nat → Nat} {ws : Nat → Nat → Int64} {nv : Nat} {wv : Nat → Int64} {ρ ρ1 : zS} {τ τ1 : zT} {μ : zS} {k : Int32} {bb : Nat → Int32} {nn : Int32} (tb : TB bb nn T.1 T.2.1 T.2.2.1 T.2.2.2.1 T.2.2.2.2) (hl : L < 24) (t4 : t < 4) (h8 : ρ 29 8 = Int32.ofNat t) (h5 : ρ 5 t = Int32.ofNat L) (f : RXF ρ ρ1) (g : RTF τ τ1) (sx : SX T b ρ1 τ1) (ns : NNX c ws nv wv ρ1 τ1) : zp (zf_Reader_readTest N ρ1 τ1 k) (fun r => (r.1 = 0 ∧ ∃ p, XFl r.2.1 p ∧ ∀ μ1, SM T b μ1 → NSM c ws nv wv μ1 → μ1 82 39 = Int32.ofNat t → zp (zf_M_test N' μ1 (Int32.ofNat L)) (fun s => MFl s p)) ∨ (r.1 ≠ 0 ∧ ∃ nv' wv' b', b < b' ∧ SX T b' r.2.1 r.2.2 ∧ NNX c ws nv' wv' r.2.1 r.2.2 ∧ CEx t L k ρ r.2.1 ∧ r.2.1 8 (24 * t + L) = -1 ∧ r.2.1 29 7 = Int32.ofNat L ∧ RTF τ r.2.2 ∧ ∀ μ1, SM T b μ1 → NSM c ws nv wv μ1 → μ1 82 39 = Int32.ofNat t → MEx t L k μ μ1 → zp (zf_M_test N' μ1 (Int32.ofNat L)) (fun s => SM T b' s ∧ NSM c ws nv' wv' s ∧ MEx t L k μ s))) := by
  unfold zf_Reader_readTest
  refine zp_bind (zp_mono (p_testv tb sx ns N') ?_)
  rintro r1 (⟨e, fl, m⟩ | ⟨ne, nv1, wv1, sx1, ns1, f1, g1, m⟩)
  · refine zp_ite (fun q => absurd e q) fun _ => zp_some (Or.inl ⟨rfl, _, fl, fun μ1 sm nm h39 => ?_⟩)
    unfold zf_M_test
    refine zp_ite (fun _ => zp_bind (zp_mono (m μ1 sm nm) fun s hs => zp_chk fun _ => zp_ite (fun q => absurd q hs.1) fun _ => zp_some (hs.up (by decide)))) fun q => absurd sm.2.2.2 q
  · refine zp_ite (fun _ => ?_) fun q => absurd ne q
    rw [sx1.k]
    have main : (T.1 (b + 1) = 256 ∨ T.1 (b + 1) = 257 ∨ T.1 (b + 1) = 60 ∨ T.1 (b + 1) = 62) → zp (zb_Reader_readTest_52 N r1.2.1 r1.2.2 k r1.1 (T.1 (b + 1))) (fun r => (r.1 = 0 ∧ ∃ p, XFl r.2.1 p ∧ ∀ μ1, SM T b μ1 → NSM c ws nv wv μ1 → μ1 82 39 = Int32.ofNat t → zp (zf_M_test N' μ1 (Int32.ofNat L)) (fun s => MFl s p)) ∨ (r.1 ≠ 0 ∧ ∃ nv' wv' b', b < b' ∧ SX T b' r.2.1 r.2.2 ∧ NNX c ws nv' wv' r.2.1 r.2.2 ∧ CEx t L k ρ r.2.1 ∧ r.2.1 8 (24 * t + L) = -1 ∧ r.2.1 29 7 = Int32.ofNat L ∧ RTF τ r.2.2 ∧ ∀ μ1, SM T b μ1 → NSM c ws nv wv μ1 → μ1 82 39 = Int32.ofNat t → MEx t L k μ μ1 → zp (zf_M_test N' μ1 (Int32.ofNat L)) (fun s => SM T b' s ∧ NSM c ws nv' wv' s ∧ MEx t L k μ s))) := by
      intro hk
      have kk : ¬ T.1 (b + 1) = 0 ∧ ¬ T.1 (b + 1) = 1 := by rcases hk with e | e | e | e <;> rw [e] <;> decide
      have ref : ∀ {Q : zS → Prop} (μ1 : zS), SM T b μ1 → NSM c ws nv wv μ1 → μ1 82 39 = Int32.ofNat t → (∀ μ2, SM T (b + 2) μ2 → NSM c ws nv1 wv1 μ2 → (∀ μ', MEx t L k μ' μ1 → MEx t L k μ' μ2) → zp (zf_M_value N' μ2 0) (fun s => ∀ i, zp (some (zx_up s.2 100 i s.1)) Q)) → zp (zf_M_test N' μ1 (Int32.ofNat L)) Q := by
        intro Q μ1 sm nm h39 kont
        unfold zf_M_test
        refine zp_ite (fun _ => zp_bind (zp_mono (m μ1 sm nm) ?_)) fun q => absurd sm.2.2.2 q
        rintro s ⟨s1, s2, s3, s4⟩
        have fin : zp (zb_M_test_98 N' (zx_up (zx_up s.2 99 ((24 * (μ1 82 39)) + Int32.ofNat L).toNatClampNeg s.1) 101 ((24 * (μ1 82 39)) + Int32.ofNat L).toNatClampNeg (s.2 82 8)) ((24 * (μ1 82 39)) + Int32.ofNat L)) Q := by
          unfold zb_M_test_98
          refine zp_bind (zp_mono (M.tk ((s2.up (q := 99) (by decide)).up (q := 101) (by decide)) ((s3.up (q := 99) (by decide)).up (q := 101) (by decide)) kk) ?_)
          rintro ν ⟨n1, n2, n3, n4⟩
          refine zp_bind (zp_mono (kont ν n1 n2 fun μ' me => (((me.rd s4).up (by decide)).up (by decide)).rd n4) fun u hu => zp_chk fun _ => hu _)
        have td := s2.d.test.mpr hk
        refine zp_chk fun _ => zp_ite (fun _ => zp_chk fun _ => zp_ite (fun q => absurd td.1 q) fun _ => zp_ite (fun _ => fin) fun q1 => zp_ite (fun _ => fin) fun q2 => zp_ite (fun _ => fin) fun q3 => zp_ite (fun _ => fin) fun q4 => ?_) fun q => absurd s2.2.2.2 q
        exfalso
        rcases td.2 with e | e | e | e
        · exact q1 e
        · exact q2 e
        · exact q3 e
        · exact q4 e
      unfold zb_Reader_readTest_52
      refine zp_bind (zp_mono (X.tk tb sx1 ns1 kk) ?_)
      rintro r4 ⟨x1, x2, x3, x4, x5, x6⟩
      refine zp_bind (zp_mono (p_testv tb x1 x2 N') ?_)
      rintro r5 (⟨e, fl, m5⟩ | ⟨ne5, nv2, wv2, sx2, ns2, f2, g2, m5⟩)
      · refine zp_ite (fun q => absurd e q) fun _ => zp_some (Or.inl ⟨rfl, _, fl, fun μ1 sm nm h39 => ref μ1 sm nm h39 fun μ2 sm2 nm2 _ => ?_⟩)
        exact zp_mono (m5 μ2 sm2 nm2) fun s hs i => zp_some (hs.up (by decide))
      · have F := ((f.tr f1).tr x4).tr f2
        have G := ((g.tr g1).tr x5).tr g2
        have e29 : r5.2.1 29 = ρ 29 := F.1 29 (by decide) (by decide) (by decide)
        have e5 : r5.2.1 5 = ρ 5 := F.1 5 (by decide) (by decide) (by decide)
        refine zp_ite (fun _ => zp_bind (zp_mono (p_X_emit (t := t) (L := L) (by rw [e29]; exact h8) t4 (by rw [e5]; exact h5) hl) fun r7 em => zp_bind (zp_mono p_X_work fun r8 wk => zp_some (Or.inr ⟨show ¬ (1 : Int32) = 0 by decide, nv2, wv2, b + 2 + 1, by omega, ?_, ?_, (CEx.of F em).post fun q hq => wk q (by omega) (by omega) (by omega) (by omega), (congrFun (wk 8 (by decide) (by decide) (by decide) (by decide)) _).trans em.2.2.2.2.2.1.2.1, (congrFun (wk 29 (by decide) (by decide) (by decide) (by decide)) _).trans em.2.2.2.2.2.2.2.1, G, fun μ1 sm nm h39 me => ref μ1 sm nm h39 fun μ2 sm2 nm2 up => ?_⟩)))) fun q => absurd ne5 q
        · exact (sx2.em em).of (wk 17 (by decide) (by decide) (by decide) (by decide)) (wk 25 (by decide) (by decide) (by decide) (by decide)) (wk 26 (by decide) (by decide) (by decide) (by decide)) (wk 27 (by decide) (by decide) (by decide) (by decide)) rfl rfl
        · exact (ns2.em em).of (fun s _ => congrFun (wk 4 (by decide) (by decide) (by decide) (by decide)) s) (wk 18 (by decide) (by decide) (by decide) (by decide)) (wk 20 (by decide) (by decide) (by decide) (by decide)) (wk 21 (by decide) (by decide) (by decide) (by decide)) rfl rfl
        · refine zp_mono (m5 μ2 sm2 nm2) ?_
          rintro s ⟨s1, s2, s3, s4⟩ i
          exact zp_some ⟨s2.up (by decide), s3.up (by decide), ((up μ me).rd s4).up (by decide)⟩
    refine zp_ite (fun q => main (Or.inl q)) fun q1 => zp_ite (fun q => main (Or.inr (Or.inl q))) fun q2 => zp_ite (fun q => main (Or.inr (Or.inr (Or.inl q)))) fun q3 => zp_ite (fun q => main (Or.inr (Or.inr (Or.inr q)))) fun q4 => ?_
    refine zp_bind (zp_mono (p_X_fail (by decide)) fun r12 h12 => zp_chk fun _ => zp_some (Or.inl ⟨h12.1, _, h12.2, fun μ1 sm nm h39 => ?_⟩))
    rw [sx1.p]
    unfold zf_M_test zb_M_test_93
    refine zp_ite (fun _ => zp_bind (zp_mono (m μ1 sm nm) ?_)) fun q => absurd sm.2.2.2 q
    rintro s ⟨s1, s2, s3, s4⟩
    have can : zp ((zf_M_cannot (zx_up (zx_up s.2 99 ((24 * (μ1 82 39)) + Int32.ofNat L).toNatClampNeg s.1) 101 ((24 * (μ1 82 39)) + Int32.ofNat L).toNatClampNeg (s.2 82 8))).bind fun r7 => some r7) (fun s => MFl s (T.2.1 (b + 1))) := by
      have sm3 := (s2.up (q := 99) (i := ((24 * (μ1 82 39)) + Int32.ofNat L).toNatClampNeg) (x := s.1) (by decide)).up (q := 101) (i := ((24 * (μ1 82 39)) + Int32.ofNat L).toNatClampNeg) (x := s.2 82 8) (by decide)
      refine zp_bind (zp_mono (p_M_cannot sm3.2.2.2) fun u hu => zp_some ?_)
      rw [sm3.p] at hu
      exact hu
    refine zp_chk fun _ => zp_ite (fun _ => zp_chk fun _ => zp_ite (fun _ => can) fun z => ?_) fun q => absurd s2.2.2.2 q
    have no : ∀ x : Int32, (x = 1000 ∨ x = 1001 ∨ x = 60 ∨ x = 62) → s.2 82 8 ≠ x := by
      intro x hx e
      have := s2.d.test.mp ⟨Classical.not_not.mp z, by rw [e]; exact hx⟩
      rcases this with h | h | h | h
      · exact q1 h
      · exact q2 h
      · exact q3 h
      · exact q4 h
    exact zp_ite (fun q => absurd q (no 1000 (by decide))) fun _ => zp_ite (fun q => absurd q (no 1001 (by decide))) fun _ => zp_ite (fun q => absurd q (no 60 (by decide))) fun _ => zp_ite (fun q => absurd q (no 62 (by decide))) fun _ => can
