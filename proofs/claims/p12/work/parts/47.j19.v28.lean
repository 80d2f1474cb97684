-- both answer alike
set_option maxRecDepth 2000
def CT (T : TS) (c : Nat → Nat) (ws : Nat → Nat → Int64) (len : Nat → Nat) (d t L : Nat) (ρ : zS) (τ : zT) (μ : zS) : Prop :=
  PKW c len d ρ μ ∧ LAT c ws len ρ τ μ ∧ 0 < d ∧ t = c 2 - 1 ∧ L = len t ∧ L < 24 ∧ t < 4 ∧ ρ 29 8 = Int32.ofNat t ∧ ρ 5 t = Int32.ofNat L ∧ TB (μ 84) (μ 82 4) T.1 T.2.1 T.2.2.1 T.2.2.2.1 T.2.2.2.2 ∧ VX c len d ρ μ
theorem p_fin {T : TS} {a e t L N N' : Nat} {c : Nat → Nat} {ws : Nat → Nat → Int64} {nv : Nat} {wv : Nat → Int64} {len : Nat → Nat} {d : Nat} {ρ ρ1 : zS} {τ τ1 : zT} {μ : zS} {k x y1 y2 y3 y4 : Int32} (ct : CT T c ws len d t L ρ τ μ) (he : a < e) (f : RXF ρ ρ1) (g : RTF τ τ1) (sx : SX T e ρ1 τ1) (ns : NNX c ws nv wv ρ1 τ1) (nk : ¬ k = 10 ∧ ¬ k = 11) : zp ((zf_Weaver_emit N ρ1 k x).bind fun r3 => (zf_Weaver_work r3 y1 y2 y3 y4).bind fun r4 => (zf_Reader_expect r4 τ1 59).bind fun r5 => some (r5.2.1, r5.2.2)) (fun r => ∀ μ1, SM T e μ1 → NSM c ws nv wv μ1 → MEx t L k μ μ1 → SBJ k x (μ1 93 (24 * t + L)) → zp (zf_M_take N' μ1 59) (fun s => OUT T a c ws r.1 r.2 s)) := by
  obtain ⟨pk, la, hd, ht, hL, hl, t4, h8, h5, tb, vx⟩ := ct
  have e29 : ρ1 29 = ρ 29 := f.1 29 (by decide) (by decide) (by decide)
  have e5 : ρ1 5 = ρ 5 := f.1 5 (by decide) (by decide) (by decide)
  refine zp_bind (zp_mono (p_X_emit (t := t) (L := L) (by rw [e29]; exact h8) t4 (by rw [e5]; exact h5) hl) fun r7 em => zp_bind (zp_mono p_X_work fun r8 wk => ?_))
  have sx8 : SX T e r8 τ1 := (sx.em em).of (wk 17 (by decide) (by decide) (by decide) (by decide)) (wk 25 (by decide) (by decide) (by decide) (by decide)) (wk 26 (by decide) (by decide) (by decide) (by decide)) (wk 27 (by decide) (by decide) (by decide) (by decide)) rfl rfl
  have ns8 : NNX c ws nv wv r8 τ1 := (ns.em em).of (fun s _ => congrFun (wk 4 (by decide) (by decide) (by decide) (by decide)) s) (wk 18 (by decide) (by decide) (by decide) (by decide)) (wk 20 (by decide) (by decide) (by decide) (by decide)) (wk 21 (by decide) (by decide) (by decide) (by decide)) rfl rfl
  have ce : CEx t L k ρ r8 := (CEx.of f em).post fun q hq => wk q (by omega) (by omega) (by omega) (by omega)
  refine zp_bind (zp_mono (p_semi tb sx8 ns8) fun r10 h10 => zp_some fun μ1 sm nm me sb => ?_)
  have e8 : r8 8 (24 * t + L) = x := (congrFun (wk 8 (by decide) (by decide) (by decide) (by decide)) _).trans em.2.2.2.2.2.1.2.1
  exact h10 N' μ1 a _ d (by omega) hd sm nm (pk.step hd ht hL hl ns.1.c2 ce me) (la.step pk ht hL ce me (g 23 (by decide) (by decide)) nk) (vx.step pk hd ht hL hl ce me (by rw [e8]; exact sb)).1
theorem p_230 {N' : Nat} {μ : zS} {Q : zS → Prop} (h : zp (zf_M_take N' μ 59) Q) : zp (zb_M_assign_230 N' μ) Q := by
  unfold zb_M_assign_230
  exact zp_bind (zp_mono h fun s hs => zp_some hs)
theorem p_write {T : TS} {a e t L N N' : Nat} {c : Nat → Nat} {ws : Nat → Nat → Int64} {nv : Nat} {wv : Nat → Int64} {len : Nat → Nat} {d : Nat} {ρ ρ1 : zS} {τ τ1 : zT} {μ : zS} {x : Int32} (ct : CT T c ws len d t L ρ τ μ) (he : a < e) (f : RXF ρ ρ1) (g : RTF τ τ1) (sx : SX T e ρ1 τ1) (ns : NNX c ws nv wv ρ1 τ1) : zp (zf_Reader_readWrite N ρ1 τ1 x) (fun r => ∀ μ1 v1 v4, v1 ≠ -1 → SM T e μ1 → NSM c ws nv wv μ1 → MEx t L 1 μ μ1 → x = μ1 93 (24 * t + L) → zp (zb_M_assign_161 N' μ1 v1 v4) (fun s => OUT T a c ws r.1 r.2 s)) := by
  have tb := ct.2.2.2.2.2.2.2.2.2.1
  unfold zf_Reader_readWrite
  refine zp_bind (zp_mono (p_setv tb sx ns N') ?_)
  rintro r1 (⟨e1, fl, m⟩ | ⟨ne, nv1, wv1, sx1, ns1, f1, g1, m⟩)
  · refine zp_ite (fun _ => zp_some fun μ1 v1 v4 hv sm nm me hx => ?_) fun q => absurd e1 q
    unfold zb_M_assign_161
    exact zp_bind (zp_mono (m μ1 sm nm) fun s hs => zp_chk fun _ => zp_ite (fun _ => p_230 (zp_mono (p_F_take (hs.up (by decide))) fun s' hs' => Or.inl ⟨_, fl, hs'⟩)) fun q => absurd hv q)
  · refine zp_ite (fun q => absurd q ne) fun _ => zp_mono (p_fin (a := a) (N' := N') ct (by omega) (f.tr f1) (g.tr g1) sx1 ns1 (by decide)) fun r hr μ1 v1 v4 hv sm nm me hx => ?_
    unfold zb_M_assign_161
    refine zp_bind (zp_mono (m μ1 sm nm) ?_)
    rintro s ⟨s1, s2, s3, s4⟩
    exact zp_chk fun _ => zp_ite (fun _ => p_230 (hr _ (s2.up (by decide)) (s3.up (by decide)) ((me.rd s4).up (by decide)) (SBJ.eq (by decide) (by rw [zu_other (by decide), s4.1 93 (by decide) (by decide) (by decide)]; exact hx)))) fun q => absurd hv q
theorem p_sum {T : TS} {a e t L N N' : Nat} {c : Nat → Nat} {ws : Nat → Nat → Int64} {nv : Nat} {wv : Nat → Int64} {len : Nat → Nat} {d : Nat} {ρ ρ1 : zS} {τ τ1 : zT} {μ : zS} {x : Int32} (ct : CT T c ws len d t L ρ τ μ) (he : a < e) (f : RXF ρ ρ1) (g : RTF τ τ1) (sx : SX T e ρ1 τ1) (ns : NNX c ws nv wv ρ1 τ1) : zp (zf_Reader_readSum N ρ1 τ1 x) (fun r => ∀ μ1 v4, SM T e μ1 → NSM c ws nv wv μ1 → MEx t L 2 μ μ1 → zp (zb_M_assign_161 N' μ1 (-1) v4) (fun s => OUT T a c ws r.1 r.2 s)) := by
  have tb := ct.2.2.2.2.2.2.2.2.2.1
  unfold zf_Reader_readSum
  refine zp_bind (zp_mono (p_setv tb sx ns N') ?_)
  rintro r1 (⟨e1, fl, m⟩ | ⟨ne, nv1, wv1, sx1, ns1, f1, g1, m⟩)
  · refine zp_ite (fun q => absurd e1 q) fun _ => zp_some fun μ1 v4 sm nm me => ?_
    unfold zb_M_assign_161
    exact zp_bind (zp_mono (m μ1 sm nm) fun s hs => zp_chk fun _ => zp_ite (fun q => absurd rfl q) fun _ => zp_ite (fun _ => p_230 (zp_mono (p_F_take (hs.up (by decide))) fun s' hs' => Or.inl ⟨_, fl, hs'⟩)) fun q => absurd (Classical.not_not.mp q) hs.1)
  · refine zp_ite (fun _ => ?_) fun q => absurd ne q
    rw [sx1.k]
    have ref : ∀ {Q : zS → Prop} (μ1 : zS) (v4 : Int32), SM T e μ1 → NSM c ws nv wv μ1 → MEx t L 2 μ μ1 → ((¬ T.1 (e + 1) = 43 ∧ ¬ T.1 (e + 1) = 45) → ∀ μ2, SM T (e + 1) μ2 → NSM c ws nv1 wv1 μ2 → MEx t L 2 μ μ2 → zp (zf_M_take N' μ2 59) Q) → ((T.1 (e + 1) = 43 ∨ T.1 (e + 1) = 45) → ∀ μ2, SM T (e + 1) μ2 → NSM c ws nv1 wv1 μ2 → MEx t L 2 μ μ2 → zp (zb_M_assign_203 N' μ2 v4) Q) → zp (zb_M_assign_161 N' μ1 (-1) v4) Q := by
      intro Q μ1 v4 sm nm me k1 k2
      unfold zb_M_assign_161
      refine zp_bind (zp_mono (m μ1 sm nm) ?_)
      rintro s ⟨s1, s2, s3, s4⟩
      have S := s2.up (q := 99) (i := v4.toNatClampNeg) (x := s.1) (by decide)
      have NM := s3.up (q := 99) (i := v4.toNatClampNeg) (x := s.1) (by decide)
      have ME := (me.rd s4).up (q := 99) (i := v4.toNatClampNeg) (x := s.1) (by decide)
      refine zp_chk fun _ => zp_ite (fun q => absurd rfl q) fun _ => zp_ite (fun q => absurd s2.2.2.2 q) fun _ => zp_bind (zp_mono (p_M_isSign S.d (c := 43) (by decide)) fun u hu => zp_ite (fun z => ?_) fun z => zp_bind (zp_mono (p_M_isSign S.d (c := 45) (by decide)) fun w hw => zp_ite (fun y => ?_) fun y => ?_))
      · rcases hu with hu | hu
        · exact absurd hu.1 z
        · exact k2 (Or.inl hu.2) _ S NM ME
      · rcases hu with hu | hu
        · rcases hw with hw | hw
          · exact p_230 (k1 ⟨hu.2, hw.2⟩ _ S NM ME)
          · rw [hw.1] at y; exact absurd y (by decide)
        · exact absurd (by rw [hu.1]; decide) z
      · rcases hw with hw | hw
        · exact absurd hw.1 y
        · exact k2 (Or.inr hw.2) _ S NM ME
    have two : (T.1 (e + 1) = 43 ∨ T.1 (e + 1) = 45) → zp (zb_Reader_readSum_40 N r1.2.1 r1.2.2 x r1.1) (fun r => ∀ μ1 v4, SM T e μ1 → NSM c ws nv wv μ1 → MEx t L 2 μ μ1 → zp (zb_M_assign_161 N' μ1 (-1) v4) (fun s => OUT T a c ws r.1 r.2 s)) := by
      intro hk
      have kk : ¬ T.1 (e + 1) = 0 ∧ ¬ T.1 (e + 1) = 1 := by rcases hk with q | q <;> rw [q] <;> decide
      have nn : ¬ (¬ T.1 (e + 1) = 43 ∧ ¬ T.1 (e + 1) = 45) := fun q => hk.elim q.1 q.2
      unfold zb_Reader_readSum_40
      refine zp_bind (zp_mono (X.tk tb sx1 ns1 kk) ?_)
      rintro r4 ⟨x1, x2, x3, x4, x5, x6⟩
      refine zp_bind (zp_mono (p_setv tb x1 x2 N') ?_)
      unfold zb_Reader_readSum_61
      rintro r5 (⟨e5, fl, m5⟩ | ⟨ne5, nv2, wv2, sx2, ns2, f2, g2, m5⟩)
      · refine zp_ite (fun _ => zp_some fun μ1 v4 sm nm me => ref μ1 v4 sm nm me (fun q => absurd q nn) fun _ μ2 sm2 nm2 me2 => ?_) fun q => absurd e5 q
        unfold zb_M_assign_203
        refine zp_chk fun _ => zp_bind (zp_mono (M.tk (sm2.up (by decide)) (nm2.up (by decide)) kk) ?_)
        rintro ν ⟨n1, n2, n3, n4⟩
        exact zp_bind (zp_mono (m5 ν n1 n2) fun s hs => zp_chk fun _ => p_230 (zp_mono (p_F_take (hs.up (by decide))) fun s' hs' => Or.inl ⟨_, fl, hs'⟩))
      · refine zp_ite (fun q => absurd q ne5) fun _ => zp_mono (p_fin (a := a) (N' := N') ct (by omega) (((f.tr f1).tr x4).tr f2) (((g.tr g1).tr x5).tr g2) sx2 ns2 (by decide)) fun r hr μ1 v4 sm nm me => ref μ1 v4 sm nm me (fun q => absurd q nn) fun _ μ2 sm2 nm2 me2 => ?_
        unfold zb_M_assign_203
        refine zp_chk fun _ => zp_bind (zp_mono (M.tk (sm2.up (by decide)) (nm2.up (by decide)) kk) ?_)
        rintro ν ⟨n1, n2, n3, n4⟩
        refine zp_bind (zp_mono (m5 ν n1 n2) ?_)
        rintro s ⟨s1, s2, s3, s4⟩
        exact zp_chk fun _ => p_230 (hr _ (s2.up (by decide)) (s3.up (by decide)) (((((me2.up (by decide)).rd n4).rd s4)).up (by decide)) (SBJ.no (by decide) rfl))
    refine zp_ite (fun q => two (Or.inl q)) fun q1 => zp_ite (fun q2 => ?_) fun q2 => two (Or.inr (Classical.not_not.mp q2))
    unfold zb_Reader_readSum_61
    refine zp_ite (fun q => absurd q (by decide)) fun _ => zp_mono (p_fin (a := a) (N' := N') ct (by omega) (f.tr f1) (g.tr g1) sx1 ns1 (by decide)) fun r hr μ1 v4 sm nm me => ref μ1 v4 sm nm me (fun _ μ2 sm2 nm2 me2 => hr _ sm2 nm2 me2 (SBJ.no (by decide) rfl)) fun q => absurd q (fun q => q.elim q1 q2)
