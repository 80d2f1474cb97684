-- both answer alike
set_option maxRecDepth 2000
theorem s_thread {T : TS} {a N N' : Nat} {c : Nat → Nat} {ws : Nat → Nat → Int64} {nv : Nat} {wv : Nat → Int64} {len : Nat → Nat} {d : Nat} {ρ : zS} {τ : zT} {μ : zS} {k : Int32} (rl : RLX T a c ws nv wv len d ρ τ μ) (hd : 0 < d) (kk : ¬ T.1 a = 0 ∧ ¬ T.1 a = 1) (hk : k = 10 ∨ k = 11) : zp (zf_Reader_readThreadStep N ρ τ k) (fun r => zp (zb_M_statement_402 N' μ (24 * (μ 82 39)) k) (fun s => OUT T a c ws r.1 r.2 s)) := by
  obtain ⟨t4, h8, h5, hL, h39, h90⟩ := rl.th hd
  obtain ⟨sx, sm, ns, nm, pk, la, vx⟩ := rl
  unfold zf_Reader_readThreadStep zb_M_statement_402
  rw [h39]
  refine zp_bind (zp_mono (p_X_room sx h8 t4 h5 hL).2 fun r1 hr => ?_)
  rcases hr with ⟨l, e, fl⟩ | ⟨l, e⟩
  · refine zp_ite (fun q => absurd e q) fun _ => zp_some ?_
    refine p_M_begin sm nm kk h39 t4 h90 hL (fun _ r r' h' => zp_bind (zp_mono (p_F_threadNamed h') fun s hs => zp_chk fun _ => zp_bind (zp_mono (p_F_take (hs.up (by decide))) fun s hs => zp_some (Or.inl ⟨_, fl, hs⟩)))) fun l' => by omega
  · subst e
    refine zp_ite (fun _ => zp_bind (zp_mono (X.tk sm.1 sx ns kk) ?_)) fun q => absurd (show ¬ (1 : Int32) = 0 by decide) q
    rintro r3 ⟨x1, x2, x3, x4, x5, x6⟩
    rw [x1.k, x1.w]
    have fl54 : (∀ r', SM T (a + 1) r' → NSM c ws nv wv r' → zp (zf_M_threadNamed N' r') (fun s => MFl s.2 (T.2.1 (a + 1)))) → zp (zb_Reader_readThreadStep_54 N r3.1 r3.2) (fun r => zp ((zf_M_addStep N' μ k 0).bind fun r32 => (zf_M_nextIfWell N' r32.2).bind fun r33 => (zf_M_threadNamed N' r33).bind fun r34 => if 0 ≤ (24 * Int32.ofNat (c 2 - 1) + r32.1) ∧ (24 * Int32.ofNat (c 2 - 1) + r32.1) < 96 then (zf_M_take N' (zx_up r34.2 93 (24 * Int32.ofNat (c 2 - 1) + r32.1).toNatClampNeg r34.1) 59).bind fun r36 => some (r36) else none) (fun s => OUT T a c ws r.1 r.2 s)) := by
      intro m
      unfold zb_Reader_readThreadStep_54
      refine zp_bind (zp_mono (p_X_fail (by decide)) fun r hr => zp_some ?_)
      rw [x1.p] at hr
      refine p_M_begin sm nm kk h39 t4 h90 hL (fun l' => by omega) fun _ r r' e1 as nx sm' nm' => zp_bind (zp_mono (m r' sm' nm') fun s hs => zp_chk fun _ => zp_bind (zp_mono (p_F_take (hs.up (by decide))) fun s hs => zp_some (Or.inl ⟨_, hr.2, hs⟩)))
    refine zp_ite (fun z => ?_) fun z => ?_
    · unfold zb_Reader_readThreadStep_44
      refine zp_ite (fun _ => fl54 fun r' sm' nm' => ?_) fun q => absurd rfl q
      unfold zf_M_threadNamed zb_M_threadNamed_25 zb_M_threadNamed_46
      have k2 : ¬ r' 82 7 = 2 := fun q => z (sm'.d.name.mp q)
      refine zp_ite (fun _ => zp_ite (fun _ => zp_ite (fun _ => zp_bind (zp_mono (p_M_cannot sm'.2.2.2) fun s hs => zp_some ?_)) fun q => absurd k2 q) fun q => absurd k2 q) fun q => absurd sm'.2.2.2 q
      rw [sm'.p] at hs
      exact hs
    · have z3 : T.1 (a + 1) = 3 := Classical.not_not.mp z
      have kk3 : ¬ T.1 (a + 1) = 0 ∧ ¬ T.1 (a + 1) = 1 := by rw [z3]; decide
      obtain ⟨f, lo, t, v, lq⟩ := LQ.ex x2.1 x2.2.1 (T.2.2.1 (a + 1))
      have lx := LX.mk x2.1 x2.2.1 lq
      have dj := lq.dj x2.1
      have dj' : t ≠ -1 → f = -1 ∧ lo = -1 := fun q => (dj.2.2.1.resolve_left q).2.2
      obtain ⟨nz, wz, SL, z1, z2, zz3, z4, z5⟩ := la
      refine zp_bind (zp_mono (lx.1 N) fun so hso => ?_)
      have bad : (f ≠ -1 ∨ lo ≠ -1) → ∀ r', SM T (a + 1) r' → NSM c ws nv wv r' → zp (zf_M_threadNamed N' r') (fun s => MFl s.2 (T.2.1 (a + 1))) := by
        intro h r' sm' nm'
        have lm := LM.mk nm' (sm'.cur z3) lq
        have k2 : r' 82 7 = 2 := sm'.d.name.mpr z3
        have t1 : t = -1 := by
          by_cases q : t = -1
          · exact q
          · exact absurd (dj' q) (fun x => h.elim (fun y => y x.1) (fun y => y x.2))
        unfold zf_M_threadNamed zb_M_threadNamed_25 zb_M_threadNamed_46
        refine zp_ite (fun _ => zp_ite (fun q => absurd k2 q) fun _ => zp_bind (zp_mono (lm.2.2.1 N') fun r14 h14 => zp_ite (fun q => absurd k2 q) fun _ => zp_ite (fun q => absurd (h14.trans t1) q) fun _ => zp_bind (zp_mono (lm.2.2.2.1 N') fun r12 h12 => zp_ite (fun y => ?_) fun y => zp_bind (zp_mono (p_M_cannot sm'.2.2.2) fun s hs => zp_some ?_)))) fun q => absurd sm'.2.2.2 q
        · exfalso
          rcases h12 with h12 | h12
          · exact h.elim (fun y => y h12.2.1) (fun y => y h12.2.2.1)
          · rw [h12.1] at y; exact absurd y (by decide)
        · rw [sm'.p] at hs
          exact hs
      unfold zb_Reader_readThreadStep_44
      refine zp_ite (fun q => fl54 (bad ?_)) fun q0 => zp_ite (fun q1 => ?_) fun q1 => fl54 (bad ?_)
      · rcases hso with h | h | h | h
        · rw [h.1] at q; exact absurd q (by decide)
        · exact Or.inl h.2.1
        · rw [h.1] at q; exact absurd q (by decide)
        · rw [h.1] at q; exact absurd q (by decide)
      · have un : f = -1 ∧ lo = -1 := by
          rcases hso with h | h | h | h
          · exact ⟨h.2.1, h.2.2.1⟩
          · exact absurd h.1 q0
          · exact absurd h.1 q1
          · exact ⟨h.2.1, h.2.2.1⟩
        refine zp_bind (zp_mono (p_X_emit (t := c 2 - 1) (L := len (c 2 - 1)) (by rw [x3.1 29 (by decide)]; exact h8) t4 (by rw [x3.1 5 (by decide)]; exact h5) l) fun r8 em => ?_)
        have ce := CEx.of x4 em
        have c1 : 0 < c 2 := (pk.2.2.2.2.2.1 hd).1
        have c4 := ns.1.c2
        have e42 : r8 4 2 = Int32.ofNat (c 2) := by rw [ce.2.1 2 (by decide)]; exact (ns.1.1 2 (by decide)).2
        rw [e42, zo_pred c1 (by omega), em.2.2.2.2.2.2.2.1]
        refine zp_bind (zp_mono (p_X_slotOf t4 l (by rw [ce.2.2.2.1]; exact (zo_lt (by omega) (by omega)).mpr (by omega))) fun r9 h9 => ?_)
        subst h9
        rw [zo_n (by omega)]
        refine zp_ite (fun q => ?_) fun _ => zp_chk fun _ => zp_chk fun _ => ?_
        · have := (zo_le (k := 96) (j := 24 * (c 2 - 1) + len (c 2 - 1)) (by omega) (by omega)).mp q
          omega
        · have sx8 := x1.em em
          have ns8 := x2.em em
          have e258 : r8 25 8 = T.2.1 (a + 1) := sx8.p
          have sx9 : SX T (a + 1) (zx_up r8 24 (24 * (c 2 - 1) + len (c 2 - 1)) (r8 25 8)) (zx_up r3.2 23 (24 * (c 2 - 1) + len (c 2 - 1)) (r3.2 25 9)) := sx8.of (zu_other (by decide)) (zu_other (by decide)) (zu_other (by decide)) (zu_other (by decide)) (zt_other (by decide)) (zt_other (by decide))
          have ns9 : NNX c ws nv wv (zx_up r8 24 (24 * (c 2 - 1) + len (c 2 - 1)) (r8 25 8)) (zx_up r3.2 23 (24 * (c 2 - 1) + len (c 2 - 1)) (r3.2 25 9)) := ns8.of (fun s _ => by rw [zu_other (by decide)]) (zu_other (by decide)) (zu_other (by decide)) (zu_other (by decide)) (zt_other (by decide)) (zt_other (by decide))
          unfold zb_Reader_readThreadStep_126
          refine zp_bind (zp_mono (X.tk sm.1 sx9 ns9 kk3) ?_)
          rintro r11 ⟨y1, y2, y3, y4, y5, y6⟩
          refine zp_bind (zp_mono (p_semi sm.1 y1 y2) fun r12 h12 => zp_some ?_)
          refine p_M_begin sm nm kk h39 t4 h90 hL (fun l' => by omega) fun _ r r' e1 as nx sm' nm' => ?_
          have me := (MEx.of as).rd nx.mf
          have n19 : r' 82 19 = Int32.ofNat nz := (me.2.1 19 (by decide)).trans z2
          have nms : ∀ l, l < nz → Nm r' (17 + l) (wz l) := fun l hl => (zz3 l hl).1.of (fun i hi => me.2.2.2.2.2.2.2.1 _ (by omega)) (me.2.2.2.2.2.2.1 _ (by omega))
          have X24 : ∀ j, j ≠ 24 * (c 2 - 1) + len (c 2 - 1) → r11.1 24 j = ρ 24 j := fun j hj => by rw [y3.1 24 (by decide), zx_up_same, zu_ne hj]; exact ce.2.2.2.2.2.2.2.2.1 j hj
          have X24' : r11.1 24 (24 * (c 2 - 1) + len (c 2 - 1)) = T.2.1 (a + 1) := by rw [y3.1 24 (by decide), zx_up_same, zu_eq]; exact e258
          have Y23 : ∀ j, j ≠ 24 * (c 2 - 1) + len (c 2 - 1) → r11.2 23 j = τ 23 j := fun j hj => by rw [y6 23 (by decide), zt_ne hj, x6 23 (by decide)]
          have Y23' : r11.2 23 (24 * (c 2 - 1) + len (c 2 - 1)) = T.2.2.1 (a + 1) := by rw [y6 23 (by decide), zt_at]; exact x1.w
          have CE : CEx (c 2 - 1) (len (c 2 - 1)) k ρ r8 := ce
          have PX : ∀ q, q = 4 ∨ q = 5 ∨ q = 7 ∨ q = 29 ∨ q = 30 → r11.1 q = r8 q := fun q hq => by rw [y3.1 q (by omega), zu_other (by omega)]
          have PV : ∀ q, q ≠ 24 → q ≠ 25 → r11.1 q = r8 q := fun q b0 b1 => by rw [y3.1 q b1, zu_other b0]
          have nkq : ¬ (k = 0 ∨ k = 1 ∨ k = 3 ∨ k = 4 ∨ k = 7 ∨ k = 8 ∨ k = 9) := by rcases hk with q | q <;> rw [q] <;> decide
          rw [e1, (z24 t4 (by omega)).2.1]
          refine zp_bind (zp_mono (p_M_threadNamed sm' nm' z3 lq dj' z1 n19 nms) fun s hs => ?_)
          rcases hs with ⟨hb, _⟩ | ⟨_, _, s1, hs⟩
          · exact absurd un (fun x => hb.elim (fun y => y x.1) (fun y => y x.2))
          · refine zp_chk fun _ => ?_
            rcases hs with ⟨n3, hw⟩ | ⟨n128, hw, μ2, mc, nmz, n3⟩
            · have me2 := (me.rd n3.mf).up93 (x := s.1)
              have pk2 := (pk.step hd rfl rfl l c4 CE me2).of PX (fun _ _ => rfl) (fun _ _ => rfl)
              refine zp_bind (zp_mono (h12 N' _ a _ d (by omega) hd (s1.up (by decide)) ((nm'.nx n3).up (by decide)) pk2 ?_ ((vx.step pk hd rfl rfl l CE me2 (SBJ.no nkq em.2.2.2.2.2.1.2.1)).1.of (fun q hq => PV q (by omega) (by omega)) (fun i _ => by rw [PV 29 (by decide) (by decide)]) (fun _ _ => rfl) ⟨rfl, rfl⟩)) fun s hs => zp_some hs)
              refine LAT.sj z1 zz3 z4 z5 pk rfl c1 rfl X24 Y23 hk me2.2.2.2.2.1 me2.2.2.2.2.2.1 (fun l hl => (zz3 l hl).1.of (fun i hi => me2.2.2.2.2.2.2.2.1 _ (by omega)) (me2.2.2.2.2.2.2.1 _ (by omega))) (fun l hl => by rw [me2.1.1]) (Or.inl ⟨(me2.2.1 19 (by decide)).trans z2, ?_⟩)
              rw [zx_up_same, zu_eq, Y23']
              rcases hw with ⟨tn, e⟩ | ⟨kz, kz1, kz2, kz3⟩
              · rcases lq.2.2.1 with ⟨q, _⟩ | ⟨kt, kt1, kt2, kt3, _⟩
                · exact absurd q tn
                · exact Or.inl ⟨kt, kt1, e.trans kt2, kt3⟩
              · exact Or.inr ⟨kz, kz1, kz3, kz2⟩
            ·
              have u82 : ∀ i, i ≠ 19 → i ≠ 5 → i ≠ 6 → i ≠ 7 → i ≠ 8 → s.2 82 i = r' 82 i := fun i b0 b1 b2 b3 b4 => by rw [n3.2 i b1 b2 b3 b4, zx_up_same, zu_ne b0, zu_other (by decide), mc.1 82 (by decide) (by decide)]
              have uq : ∀ q, q ≠ 82 → q ≠ 85 → q ≠ 86 → q ≠ 87 → s.2 q = r' q := fun q b0 b1 b2 b3 => by rw [n3.1 q b0, zu_other b0, zu_other b3, mc.1 q b1 b2]
              have u86 : s.2 86 = μ2 86 := by rw [n3.1 86 (by decide), zu_other (by decide), zu_other (by decide)]
              have u85 : s.2 85 = μ2 85 := by rw [n3.1 85 (by decide), zu_other (by decide), zu_other (by decide)]
              have u87 : s.2 87 = zu (r' 87) nz (T.2.1 (a + 1)) := by rw [n3.1 87 (by decide), zu_other (by decide), zx_up_same, mc.1 87 (by decide) (by decide)]
              have u19 : s.2 82 19 = Int32.ofNat (nz + 1) := by rw [n3.2 19 (by decide) (by decide) (by decide) (by decide), zx_up_same, zu_eq]
              have nm2 : NSM c ws nv wv s.2 := nm'.of (fun i hi => u82 i (by omega) (by omega) (by omega) (by omega) (by omega)) (fun p hp => by rw [u86, mc.2.1 p (by omega)]) (fun j hj => by rw [u85, mc.2.2 j (by omega)])
              have me2 := me.up93 (x := s.1)
              have U : ∀ q, q ≠ 82 → q ≠ 85 → q ≠ 86 → q ≠ 87 → (zx_up s.2 93 (24 * (c 2 - 1) + len (c 2 - 1)) s.1) q = (zx_up r' 93 (24 * (c 2 - 1) + len (c 2 - 1)) s.1) q := fun q b0 b1 b2 b3 => by
                by_cases e : q = 93
                · rw [e, zx_up_same, zx_up_same, uq 93 (by decide) (by decide) (by decide) (by decide)]
                · rw [zu_other e, zu_other e, uq q b0 b1 b2 b3]
              have pk2 := (pk.step hd rfl rfl l c4 CE me2).of (ν := zx_up s.2 93 (24 * (c 2 - 1) + len (c 2 - 1)) s.1) PX (fun q hq => U q (by omega) (by omega) (by omega) (by omega)) (fun i hi => by rw [zu_other (by decide), zu_other (by decide), u82 i (by omega) (by omega) (by omega) (by omega) (by omega)])
              refine zp_bind (zp_mono (h12 N' _ a _ d (by omega) hd (s1.up (by decide)) (nm2.up (by decide)) pk2 ?_ ((vx.step pk hd rfl rfl l CE me2 (SBJ.no nkq em.2.2.2.2.2.1.2.1)).1.of (fun q hq => PV q (by omega) (by omega)) (fun i _ => by rw [PV 29 (by decide) (by decide)]) (fun q hq => U q (by omega) (by omega) (by omega) (by omega)) ⟨by rw [zu_other (by decide), zu_other (by decide), u82 37 (by decide) (by decide) (by decide) (by decide) (by decide)], by rw [zu_other (by decide), zu_other (by decide), u82 40 (by decide) (by decide) (by decide) (by decide) (by decide)]⟩)) fun s hs => zp_some hs)
              have n17 : ∀ {pl : Nat} {w : Int64}, Nm s.2 pl w → Nm (zx_up s.2 93 (24 * (c 2 - 1) + len (c 2 - 1)) s.1) pl w := fun h => h.of (fun i hi => by rw [zu_other (by decide)]) (by rw [zu_other (by decide)])
              refine LAT.sj z1 zz3 z4 z5 pk rfl c1 rfl X24 Y23 hk ?_ (fun j hj => ?_) (fun l hl => n17 ((nms l hl).of (fun i hi => by rw [u85, mc.2.2 _ (by omega)]) (by rw [u86, mc.2.1 _ (by omega)]))) (fun l hl => ?_) (Or.inr ⟨by rw [zu_other (by decide)]; exact u19, n128, ?_, ?_, ?_⟩)
              · rw [U 92 (by decide) (by decide) (by decide) (by decide)]; exact me2.2.2.2.2.1
              · rw [U 92 (by decide) (by decide) (by decide) (by decide), U 93 (by decide) (by decide) (by decide) (by decide)]; exact me2.2.2.2.2.2.1 j hj
              · rw [zu_other (by decide), u87, zu_ne (by omega), me.1.1]
              · rw [Y23']
                exact n17 (nmz.of (fun i hi => by rw [u85]) (by rw [u86]))
              · rw [X24', zu_other (by decide), u87, zu_eq]
              · rw [zx_up_same, zu_eq]; exact hw
      · have q1' : so = 1 := Classical.not_not.mp q1
        rcases hso with h | h | h | h
        · rw [h.1] at q1'; exact absurd q1' (by decide)
        · rw [h.1] at q1'; exact absurd q1' (by decide)
        · exact Or.inr h.2.2.1
        · rw [h.1] at q1'; exact absurd q1' (by decide)
