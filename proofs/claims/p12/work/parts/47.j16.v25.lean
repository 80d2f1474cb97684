-- both answer alike
set_option maxRecDepth 2000
theorem SM.up {T : TS} {a q i : Nat} {x : Int32} {μ : zS} (h : SM T a μ) (hq : q ≠ 82 ∧ q ≠ 84) : SM T a (zx_up μ q i x) :=
  h.of (zu_other (Ne.symm hq.2)) fun j _ => by rw [zu_other (Ne.symm hq.1)]
theorem NSM.up {c : Nat → Nat} {ws : Nat → Nat → Int64} {nv : Nat} {wv : Nat → Int64} {q i : Nat} {x : Int32} {μ : zS} (h : NSM c ws nv wv μ) (hq : q ≠ 82 ∧ q ≠ 85 ∧ q ≠ 86) : NSM c ws nv wv (zx_up μ q i x) :=
  h.of (fun j _ => by rw [zu_other (Ne.symm hq.1)]) (fun p _ => by rw [zu_other (Ne.symm hq.2.2)]) (fun p _ => by rw [zu_other (Ne.symm hq.2.1)])
theorem p_sig {T : TS} {a b t L N N' : Nat} {c : Nat → Nat} {ws : Nat → Nat → Int64} {nv : Nat} {wv : Nat → Int64} {len : Nat → Nat} {d : Nat} {ρ ρ1 : zS} {τ τ1 : zT} {μ : zS} {k v1 v2 : Int32} (hb : a < b) (tb : TB (μ 84) (μ 82 4) T.1 T.2.1 T.2.2.1 T.2.2.2.1 T.2.2.2.2) (pk : PKW c len d ρ μ) (la : LAT c ws len ρ τ μ) (vx : VX c len d ρ μ) (hd : 0 < d) (ht : t = c 2 - 1) (hL : L = len t) (hl : L < 24) (t4 : t < 4) (h8 : ρ 29 8 = Int32.ofNat t) (h5 : ρ 5 t = Int32.ofNat L) (f : RXF ρ ρ1) (g : RTF τ τ1) (sx : SX T b ρ1 τ1) (ns : NNX c ws nv wv ρ1 τ1) (hk : (v2 = 0 ∧ k = v1) ∨ (v2 ≠ 0 ∧ k = 9)) (nk : ¬ k = 10 ∧ ¬ k = 11) (kq : k = 0 ∨ k = 1 ∨ k = 3 ∨ k = 4 ∨ k = 7 ∨ k = 8 ∨ k = 9) : zp (zb_Reader_readSignal_51 N ρ1 τ1 v1 v2) (fun r => ∀ μ1, SM T b μ1 → NSM c ws nv wv μ1 → MEx t L k μ μ1 → zp (zb_M_statement_364 N' μ1 (24 * Int32.ofNat t) (Int32.ofNat L)) (fun s => OUT T a c ws r.1 r.2 s)) := by
  unfold zb_Reader_readSignal_51
  refine zp_bind (zp_mono (p_locks tb sx ns N') ?_)
  rintro r6 ⟨-, ⟨e, fl, m⟩ | ⟨ne, nv', wv', sx', ns', f', g', m⟩⟩
  · refine zp_ite (fun q => zp_some fun μ1 sm nm me => ?_) fun q => absurd e q
    unfold zb_M_statement_364
    refine zp_bind (zp_mono (m μ1 sm nm) fun s hs => zp_chk fun _ => zp_bind (zp_mono (p_F_take (hs.up (by decide))) fun s' hs' => zp_some (Or.inl ⟨_, fl, hs'⟩)))
  · have main : zp (zb_Reader_readSignal_75 N r6.2.1 r6.2.2 r6.1 k) (fun r => ∀ μ1, SM T b μ1 → NSM c ws nv wv μ1 → MEx t L k μ μ1 → zp (zb_M_statement_364 N' μ1 (24 * Int32.ofNat t) (Int32.ofNat L)) (fun s => OUT T a c ws r.1 r.2 s)) := by
      have f2 := f.tr f'
      have g2 := g.tr g'
      unfold zb_Reader_readSignal_75
      have e29 : r6.2.1 29 = ρ 29 := f2.1 29 (by decide) (by decide) (by decide)
      have e5 : r6.2.1 5 = ρ 5 := f2.1 5 (by decide) (by decide) (by decide)
      refine zp_bind (zp_mono (p_X_emit (t := t) (L := L) (by rw [e29]; exact h8) t4 (by rw [e5]; exact h5) hl) fun r9 em => zp_bind (zp_mono (p_semi tb (sx'.em em) (ns'.em em)) fun r10 h10 => zp_some fun μ1 sm nm me => ?_))
      have ce := CEx.of f2 em
      unfold zb_M_statement_364
      rw [(z24 t4 (by omega)).2.1]
      refine zp_bind (zp_mono (m μ1 sm nm) ?_)
      rintro s ⟨s1, s2, s3, s4⟩
      refine zp_chk fun _ => zp_bind (zp_mono (h10 N' _ a _ d (by omega) hd (s2.up (by decide)) (s3.up (by decide)) (pk.step hd ht hL hl ns'.1.c2 ce ((me.rd s4).up93)) (la.step pk ht hL ce ((me.rd s4).up93) (g2 23 (by decide) (by decide)) nk) (vx.step pk hd ht hL hl ce ((me.rd s4).up93) (SBJ.eq kq (by rw [zx_up_same, zu_eq, s1]; exact em.2.2.2.2.2.1.2.1))).1) fun s hs => zp_some hs)
    refine zp_ite (fun q => absurd q ne) fun _ => ?_
    rcases hk with ⟨hv, hk⟩ | ⟨hv, hk⟩
    · refine zp_ite (fun _ => ?_) fun z => absurd hv z
      rw [← hk]; exact main
    · refine zp_ite (fun z => absurd z hv) fun _ => ?_
      rw [← hk]; exact main
theorem s_wait {T : TS} {a N N' : Nat} {c : Nat → Nat} {ws : Nat → Nat → Int64} {nv : Nat} {wv : Nat → Int64} {len : Nat → Nat} {d : Nat} {ρ : zS} {τ : zT} {μ : zS} (rl : RLX T a c ws nv wv len d ρ τ μ) (hd : 0 < d) (hk : T.1 a = 307) : zp (zf_Reader_readSignal N ρ τ 7) (fun r => zp (zf_M_statement N' μ) (fun s => OUT T a c ws r.1 r.2 s)) := by
  obtain ⟨t4, h8, h5, hL, h39, h90⟩ := rl.th hd
  obtain ⟨sx, sm, ns, nm, pk, la, vx⟩ := rl
  have kk : ¬ T.1 a = 0 ∧ ¬ T.1 a = 1 := by rw [hk]; decide
  rw [p_M_wait (sm.k (x := 8) (by decide) hk)]
  unfold zf_Reader_readSignal zb_Reader_readSignal_38 zb_Reader_readSignal_39
  refine zp_bind (zp_mono (p_X_room sx h8 t4 h5 hL).2 fun r1 hr => ?_)
  rcases hr with ⟨l, e, fl⟩ | ⟨l, e⟩
  · refine zp_ite (fun q => absurd e q) fun _ => zp_some ?_
    refine p_M_begin sm nm kk h39 t4 h90 hL (fun _ r r' h' => zp_bind (zp_mono (p_F_lockNamed h') fun s hs => zp_chk fun _ => zp_bind (zp_mono (p_F_take (hs.up (by decide))) fun s hs => zp_some (Or.inl ⟨_, fl, hs⟩)))) fun l' => by omega
  · subst e
    refine zp_ite (fun _ => zp_bind (zp_mono (X.tk sm.1 sx ns kk) ?_)) fun q => absurd (show ¬ (1 : Int32) = 0 by decide) q
    rintro r3 ⟨x1, x2, x3, x4, x5, x6⟩
    refine zp_ite (fun _ => zp_ite (fun _ => ?_) fun q => absurd rfl q) fun q => absurd (show ¬ (7 : Int32) = 8 by decide) q
    refine zp_mono (p_sig (a := a) (k := 7) (N' := N') (by omega) sm.1 pk la vx hd rfl rfl l t4 h8 h5 x4 x5 x1 x2 (Or.inl ⟨rfl, rfl⟩) (by decide) (by decide)) fun r hr => ?_
    refine p_M_begin sm nm kk h39 t4 h90 hL (fun l' => by omega) fun _ r r' e1 as nx sm' nm' => ?_
    rw [e1, h39]
    exact hr r' sm' nm' ((MEx.of as).rd nx.mf)
theorem s_wake {T : TS} {a N N' : Nat} {c : Nat → Nat} {ws : Nat → Nat → Int64} {nv : Nat} {wv : Nat → Int64} {len : Nat → Nat} {d : Nat} {ρ : zS} {τ : zT} {μ : zS} (rl : RLX T a c ws nv wv len d ρ τ μ) (hd : 0 < d) (hk : T.1 a = 308) : zp (zf_Reader_readSignal N ρ τ 8) (fun r => zp (zf_M_statement N' μ) (fun s => OUT T a c ws r.1 r.2 s)) := by
  obtain ⟨t4, h8, h5, hL, h39, h90⟩ := rl.th hd
  obtain ⟨sx, sm, ns, nm, pk, la, vx⟩ := rl
  have kk : ¬ T.1 a = 0 ∧ ¬ T.1 a = 1 := by rw [hk]; decide
  rw [p_M_wake (sm.k (x := 9) (by decide) hk)]
  have F364 : ∀ {Q : zS → Prop} {p : Int32} (r' : zS) (u v : Int32), MFl r' p → (∀ s, MFl s p → Q s) → zp (zb_M_statement_364 N' r' u v) Q := by
    intro Q p r' u v h k
    unfold zb_M_statement_364
    exact zp_bind (zp_mono (p_F_lockNamed h) fun s hs => zp_chk fun _ => zp_bind (zp_mono (p_F_take (hs.up (by decide))) fun s hs => zp_some (k s hs)))
  unfold zf_Reader_readSignal zb_Reader_readSignal_38 zb_Reader_readSignal_39
  refine zp_bind (zp_mono (p_X_room sx h8 t4 h5 hL).2 fun r1 hr => ?_)
  rcases hr with ⟨l, e, fl⟩ | ⟨l, e⟩
  · refine zp_ite (fun q => absurd e q) fun _ => zp_some ?_
    refine p_M_begin sm nm kk h39 t4 h90 hL (fun _ r r' h' => zp_ite (fun _ => F364 r' _ _ h' fun s hs => Or.inl ⟨_, fl, hs⟩) fun q => absurd (Classical.not_not.mp q) h'.1) fun l' => by omega
  · subst e
    refine zp_ite (fun _ => zp_bind (zp_mono (X.tk sm.1 sx ns kk) ?_)) fun q => absurd (show ¬ (1 : Int32) = 0 by decide) q
    rintro r3 ⟨x1, x2, x3, x4, x5, x6⟩
    refine zp_ite (fun q => absurd rfl q) fun _ => ?_
    rw [x1.k]
    refine zp_ite (fun z => zp_ite (fun _ => ?_) fun q => absurd rfl q) fun z => zp_ite (fun q => absurd q (by decide)) fun _ => ?_
    · refine zp_mono (p_sig (a := a) (k := 8) (N' := N') (by omega) sm.1 pk la vx hd rfl rfl l t4 h8 h5 x4 x5 x1 x2 (Or.inl ⟨rfl, rfl⟩) (by decide) (by decide)) fun r hr => ?_
      refine p_M_begin sm nm kk h39 t4 h90 hL (fun l' => by omega) fun _ r r' e1 as nx sm' nm' => ?_
      rw [e1, h39]
      refine zp_ite (fun q => absurd sm'.2.2.2 q) fun _ => zp_bind (zp_mono (p_M_isWord sm'.d (c := 10) (by decide)) fun u hu => zp_ite (fun _ => hr r' sm' nm' ((MEx.of as).rd nx.mf)) fun y => ?_)
      rcases hu with hu | hu
      · exact absurd hu.1 y
      · exact absurd hu.2 z
    · have z' : T.1 (a + 1) = 309 := Classical.not_not.mp z
      have kk2 : ¬ T.1 (a + 1) = 0 ∧ ¬ T.1 (a + 1) = 1 := by rw [z']; decide
      refine zp_bind (zp_mono (X.tk sm.1 x1 x2 kk2) ?_)
      rintro r4 ⟨y1, y2, y3, y4, y5, y6⟩
      refine zp_mono (p_sig (a := a) (k := 9) (N' := N') (by omega) sm.1 pk la vx hd rfl rfl l t4 h8 h5 (x4.tr y4) (x5.tr y5) y1 y2 (Or.inr ⟨by decide, rfl⟩) (by decide) (by decide)) fun r hr => ?_
      refine p_M_begin sm nm kk h39 t4 h90 hL (fun l' => by omega) fun _ r r' e1 as nx sm' nm' => ?_
      rw [e1, h39, (z24 t4 (by omega)).2.1]
      refine zp_ite (fun q => absurd sm'.2.2.2 q) fun _ => zp_bind (zp_mono (p_M_isWord sm'.d (c := 10) (by decide)) fun u hu => zp_ite (fun y => ?_) fun _ => zp_chk fun _ => zp_bind (zp_mono (M.tk (sm'.up (by decide)) (nm'.up (by decide)) kk2) ?_))
      · exfalso
        rcases hu with hu | hu
        · exact hu.2 z'
        · rw [hu.1] at y; exact absurd y (by decide)
      · rintro ν ⟨n1, n2, n3, n4⟩
        exact hr ν n1 n2 ((((MEx.of as).rd nx.mf).up92 (by decide) (by decide)).rd n4)
