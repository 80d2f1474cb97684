-- both answer alike
set_option maxRecDepth 2000
theorem t_threadK {T : TS} {a N N' : Nat} {c : Nat → Nat} {ws : Nat → Nat → Int64} {len : Nat → Nat} {ρ : zS} {τ : zT} {μ : zS} (rt : RT T a c ws len ρ τ μ) (hk : T.1 a = 303) : zp (zf_Reader_tellThread N ρ τ) (fun r => ∀ {Q : zS → Prop}, (∀ s p, XFl r.1 p → MFl s p → Q s) → (∀ s a' c' ws' len', a < a' → RLX T a' c' ws' 0 (fun _ => 0) len' 1 r.1 r.2 s → F98 μ s → zp (zb_M_readThread_118 N' N' s) Q) → zp (zf_M_readThread N' μ) Q) := by
  obtain ⟨sx, sm, ns, nm, pk, la, wr⟩ := rt
  have kk : ¬ T.1 a = 0 ∧ ¬ T.1 a = 1 := by rw [hk]; decide
  unfold zf_Reader_tellThread
  refine zp_bind (zp_mono (sx.adv sm.1 kk) ?_)
  rintro r1 ⟨x1, x2, x3⟩
  have e42 : r1.1 4 2 = Int32.ofNat (c 2) := by rw [x2.1 4 (by decide)]; exact (ns.1 2 (by decide)).2
  have c24 : c 2 ≤ 4 := (ns.1 2 (by decide)).1
  have ns1 : NX3 c ws r1.1 r1.2 := ns.of (fun s _ => by rw [x2.1 4 (by decide)]) (by rw [x2.1 18 (by decide)]) (x2.1 20 (by decide)) (x2.1 21 (by decide)) (x3 19 (by decide))
  rw [e42]
  refine zp_bind (zp_mono (p_tell (N' := N') (s := 2) sm.1 x1 ns1 (by decide)) fun r2 h2 => ?_)
  have nm1 : ∀ r23, NX0 μ r23 → NM3 c ws r23 ∧ r23 82 17 = Int32.ofNat (c 2) := fun r23 f => by
    have n' := nm.of (ν := r23) (fun i hi => f.2 i (by omega) (by omega) (by omega) (by omega)) (fun p _ => by rw [f.1 86 (by decide)]) (fun p _ => by rw [f.1 85 (by decide)])
    exact ⟨n', (n' 2 (by decide)).2.1⟩
  rcases h2 with ⟨e, fl, hw⟩ | ⟨e, k3, lt, sx2, no, tld, m⟩
  · refine zp_ite (fun _ => zp_some fun {Q} kA kB => ?_) fun q => absurd e q
    unfold zf_M_readThread
    refine zp_bind (zp_mono (sm.nx kk) ?_)
    rintro r23 ⟨s23, f23⟩
    obtain ⟨n23, e17⟩ := nm1 r23 f23
    have can : zp ((zf_M_cannot r23).bind fun r => some r) Q := zp_bind (zp_mono (p_M_cannot s23.2.2.2) fun s hs => zp_some (kA s _ fl (by rw [← s23.p]; exact hs)))
    have flm : ∀ k, zp ((zf_M_fail r23 k).bind fun r => some r) Q := fun k => zp_bind (zp_mono (p_M_fail s23.2.2.2) fun s hs => zp_some (kA s _ fl (by rw [← s23.p]; exact hs)))
    rcases hw with k3 | ⟨k3, m⟩ | ⟨k3, full, m⟩
    · exact zp_ite (fun q => absurd (s23.d.name.mp q) k3) fun _ => can
    · exact zp_ite (fun _ => zp_bind (zp_mono (m r23 s23 n23) fun u hu => zp_ite (fun q => absurd (q.symm.trans hu) (by decide)) fun _ => flm 3)) fun _ => can
    · exact zp_ite (fun _ => zp_bind (zp_mono (m r23 s23 n23) fun u hu => zp_ite (fun _ => zp_ite (fun q => absurd (by rw [e17, full]; rfl) q) fun _ => flm 4) fun _ => flm 3)) fun _ => can
  · have lt4 : c 2 < 4 := lt
    refine zp_ite (fun q => absurd (q.symm.trans e) (by decide)) fun _ => ?_
    unfold zf_Names_forgetLocals zf_Weaver_beginThread
    refine zp_bind (zp_some (zp_bind (zp_some ?_)))
    obtain ⟨t1, t2, t3, t4, t5, t6, t7, t8, t9, t10⟩ := tld
    have f42 : (zx_up r2.2.1 18 5 0) 4 2 = Int32.ofNat (c 2) := by rw [zu_other (by decide), t1 4 (by decide) (by decide) (by decide) (by decide)]; exact e42
    rw [f42]
    generalize hR : (zx_up (zx_up (zx_up (zx_up (zx_up (zx_up (zx_up (zx_up r2.2.1 18 5 0) 29 8 (Int32.ofNat (c 2))) 29 6 0) 29 7 (-1)) 29 9 0) 29 10 0) 29 11 0) 29 12 (-1)) = R
    have Rq : ∀ q, q ≠ 18 → q ≠ 29 → R q = r2.2.1 q := fun q a b => by rw [← hR, zu_other b, zu_other b, zu_other b, zu_other b, zu_other b, zu_other b, zu_other b, zu_other a]
    have R183 : R 18 3 = r2.2.1 18 3 := by rw [← hR]; iterate 7 rw [zu_other (by decide)]
                                           rw [zx_up_same, zu_ne (by decide)]
    have R185 : R 18 5 = 0 := by rw [← hR]; iterate 7 rw [zu_other (by decide)]
                                 rw [zx_up_same, zu_eq]
    have R6 : R 29 6 = 0 := by rw [← hR]; iterate 5 rw [zx_up_same, zu_ne (by decide)]
                               rw [zx_up_same, zu_eq]
    have R8 : R 29 8 = Int32.ofNat (c 2) := by rw [← hR]; iterate 6 rw [zx_up_same, zu_ne (by decide)]
                                               rw [zx_up_same, zu_eq]
    have R12 : R 29 12 = -1 := by rw [← hR, zx_up_same, zu_eq]
    have R11 : R 29 11 = 0 := by rw [← hR, zx_up_same, zu_ne (by decide), zx_up_same, zu_eq]
    have R10 : R 29 10 = 0 := by rw [← hR]; iterate 2 rw [zx_up_same, zu_ne (by decide)]
                                 rw [zx_up_same, zu_eq]
    have R9 : R 29 9 = 0 := by rw [← hR]; iterate 3 rw [zx_up_same, zu_ne (by decide)]
                               rw [zx_up_same, zu_eq]
    clear hR
    have e4 : R 4 2 = Int32.ofNat (c 2) := by rw [Rq 4 (by decide) (by decide), t1 4 (by decide) (by decide) (by decide) (by decide)]; exact e42
    rw [e4, zo_1 (by omega)]
    generalize hS : zx_up R 4 2 (Int32.ofNat (c 2 + 1)) = S
    have Sq : ∀ q, q ≠ 4 → S q = R q := fun q a => by rw [← hS, zu_other a]
    have S4 : S 4 2 = Int32.ofNat (c 2 + 1) := by rw [← hS, zx_up_same, zu_eq]
    have S4' : ∀ i, i ≠ 2 → S 4 i = ρ 4 i := fun i hi => by rw [← hS, zx_up_same, zu_ne hi, Rq 4 (by decide) (by decide), t1 4 (by decide) (by decide) (by decide) (by decide), x2.1 4 (by decide)]
    clear hS
    have sxS : SX T (a + 2) S r2.2.2 := sx2.of (by rw [Sq 17 (by decide), Rq 17 (by decide) (by decide)]) (by rw [Sq 25 (by decide), Rq 25 (by decide) (by decide)]) (by rw [Sq 26 (by decide), Rq 26 (by decide) (by decide)]) (by rw [Sq 27 (by decide), Rq 27 (by decide) (by decide)]) rfl rfl
    have nsS : NX3 (lUp c 2 (c 2 + 1)) (wsAdd ws 2 (c 2) (T.2.2.1 (a + 1))) S r2.2.2 := by
      refine ns.tell (s := 2) (by decide) lt no S4 (fun s' hs' ne => S4' s' ne) ?_ ?_ (fun j hj => ?_) ?_ (fun j hj => ?_) t8 (fun j hj => ?_)
      · rw [Sq 18 (by decide), R183]; exact t3
      · rw [Sq 20 (by decide), Rq 20 (by decide) (by decide)]; exact t4
      · rw [Sq 20 (by decide), Rq 20 (by decide) (by decide), t5 j hj, x2.1 20 (by decide)]
      · rw [Sq 21 (by decide), Rq 21 (by decide) (by decide)]; exact t6
      · rw [Sq 21 (by decide), Rq 21 (by decide) (by decide), t7 j hj, x2.1 21 (by decide)]
      · rw [t9 j hj, x3 19 (by decide)]
    have nnS : NNX (lUp c 2 (c 2 + 1)) (wsAdd ws 2 (c 2) (T.2.2.1 (a + 1))) 0 (fun _ => 0) S r2.2.2 := nsS.to (by rw [Sq 18 (by decide)]; exact R185)
    refine zp_bind (zp_mono (p_open (d := 0) (s := 0) (m := -1) sm.1 sxS nnS (by rw [Sq 29 (by decide)]; exact R6) (by decide)) fun r6 h6 => zp_some fun {Q} kA kB => ?_)
    unfold zf_M_readThread
    refine zp_bind (zp_mono (sm.nx kk) ?_)
    rintro r23 ⟨s23, f23⟩
    obtain ⟨n23, e17⟩ := nm1 r23 f23
    have e10 : 10 + Int32.ofNat (c 2) = Int32.ofNat (10 + c 2) := zo_plus (i := 10) rfl (by omega)
    rw [e17, e10]
    refine zp_ite (fun _ => zp_bind (zp_mono (m r23 s23 n23) fun u hu => zp_ite (fun _ => zp_ite (fun _ => zp_bind (zp_mono (p_M_call (by omega) (s23.cur k3)) ?_)) fun q => ?_) fun q => absurd hu q)) fun q => absurd (s23.d.name.mpr k3) q
    · rintro μ2 ⟨mc, nmm⟩
      have e17' : μ2 82 17 = Int32.ofNat (c 2) := by rw [mc.1 82 (by decide) (by decide)]; exact e17
      rw [e17', zo_1 (by omega)]
      have sm2 : SM T (a + 1) (zx_up (zx_up μ2 82 39 (Int32.ofNat (c 2))) 82 17 (Int32.ofNat (c 2 + 1))) := s23.of (by rw [zu_other (by decide), zu_other (by decide), mc.1 84 (by decide) (by decide)]) fun i hi => by rw [zx_up_same, zu_ne (by omega), zx_up_same, zu_ne (by omega), mc.1 82 (by decide) (by decide)]
      refine zp_bind (zp_mono (sm2.nx (by rw [k3]; decide)) ?_)
      rintro r7 ⟨s7, f7⟩
      have e39 : r7 82 39 = Int32.ofNat (c 2) := by rw [f7.2 39 (by decide) (by decide) (by decide) (by decide), zx_up_same, zu_ne (by decide), zx_up_same, zu_eq]
      rw [e39, zo_n (by omega)]
      refine zp_chk fun _ => ?_
      generalize hV : (zx_up (zx_up (zx_up (zx_up (zx_up (zx_up r7 90 (c 2) 0) 82 18 0) 82 46 0) 82 40 0) 82 41 (-1)) 82 37 (-1)) = V
      have Vq : ∀ q, q ≠ 82 → q ≠ 90 → V q = r7 q := fun q a b => by rw [← hV, zu_other a, zu_other a, zu_other a, zu_other a, zu_other a, zu_other b]
      have V82 : ∀ i, i ≠ 18 → i ≠ 46 → i ≠ 40 → i ≠ 41 → i ≠ 37 → V 82 i = r7 82 i := fun i a b c d e => by rw [← hV, zx_up_same, zu_ne e, zx_up_same, zu_ne d, zx_up_same, zu_ne c, zx_up_same, zu_ne b, zx_up_same, zu_ne a, zu_other (by decide)]
      have V18 : V 82 18 = 0 := by rw [← hV]; iterate 4 rw [zx_up_same, zu_ne (by decide)]
                                   rw [zx_up_same, zu_eq]
      have V46 : V 82 46 = 0 := by rw [← hV]; iterate 3 rw [zx_up_same, zu_ne (by decide)]
                                   rw [zx_up_same, zu_eq]
      have V37 : V 82 37 = -1 := by rw [← hV, zx_up_same, zu_eq]
      have V40 : V 82 40 = 0 := by rw [← hV]; iterate 2 rw [zx_up_same, zu_ne (by decide)]
                                   rw [zx_up_same, zu_eq]
      have V41 : V 82 41 = -1 := by rw [← hV, zx_up_same, zu_ne (by decide), zx_up_same, zu_eq]
      have V90 : V 90 (c 2) = 0 := by rw [← hV]; iterate 5 rw [zu_other (by decide)]
                                      rw [zx_up_same, zu_eq]
      have V90' : ∀ j, j ≠ c 2 → V 90 j = r7 90 j := fun j hj => by rw [← hV]; iterate 5 rw [zu_other (by decide)]
                                                                    rw [zx_up_same, zu_ne hj]
      clear hV
      have r7q : ∀ q, q ≠ 82 → r7 q = μ2 q := fun q a => by rw [f7.1 q a, zu_other a, zu_other a]
      have r782 : ∀ i, i ≠ 5 → i ≠ 6 → i ≠ 7 → i ≠ 8 → i ≠ 17 → i ≠ 39 → r7 82 i = r23 82 i := fun i a b c d e f => by rw [f7.2 i a b c d, zx_up_same, zu_ne e, zx_up_same, zu_ne f, mc.1 82 (by decide) (by decide)]
      have e717 : r7 82 17 = Int32.ofNat (c 2 + 1) := by rw [f7.2 17 (by decide) (by decide) (by decide) (by decide), zx_up_same, zu_eq]
      have smV : SM T (a + 2) V := s7.of (Vq 84 (by decide) (by decide)) fun i hi => V82 i (by omega) (by omega) (by omega) (by omega) (by omega)
      have nmV : NM3 (lUp c 2 (c 2 + 1)) (wsAdd ws 2 (c 2) (T.2.2.1 (a + 1))) V := n23.tell (s := 2) (by decide) lt mc nmm (by rw [Vq 85 (by decide) (by decide), r7q 85 (by decide)]) (by rw [Vq 86 (by decide) (by decide), r7q 86 (by decide)]) (by rw [V82 17 (by decide) (by decide) (by decide) (by decide) (by decide)]; exact e717) (fun i h1 h2 h3 => by rw [V82 i (by omega) (by omega) (by omega) (by omega) (by omega), r782 i (by omega) (by omega) (by omega) (by omega) (by omega) (by omega)])
      have Mq : ∀ q, q ≠ 82 → q ≠ 85 → q ≠ 86 → q ≠ 90 → V q = μ q := fun q a1 a2 a3 a4 => by rw [Vq q a1 a4, r7q q a1, mc.1 q a2 a3, f23.1 q a1]
      rcases h6 with ⟨xfl, m1⟩ | ⟨_, sx6, nx6, ⟨ρ1, xa, en⟩, g6, m1⟩
      · exact zp_bind (zp_mono (m1 N' V 0 smV V46) fun s hs => p_F_118 hs (kA s _ xfl hs))
      · refine zp_bind (zp_mono (m1 N' V 0 smV V46) ?_)
        rintro s ⟨s1, o⟩
        refine kB s (a + 3) (lUp c 2 (c 2 + 1)) (wsAdd ws 2 (c 2) (T.2.2.1 (a + 1))) (lUp len (c 2) 0) (by omega) ⟨sx6, s1, nx6, (nmV.to V18).opn o, ?_, ?_, ?_⟩ (fun p h1 h2 => by rw [o.1 p (by omega) (by omega) (by omega) (by omega), Mq p (by omega) (by omega) (by omega) (by omega)])
        ·
          obtain ⟨p1, p2, p3, p4, p5, p6, p7⟩ := pk
          have rq : ∀ q, q ≠ 4 → q ≠ 29 → q ≠ 30 → q ≠ 31 → q ≠ 32 → q ≠ 33 → q ≠ 34 → q ≠ 25 → q ≠ 18 → q ≠ 20 → q ≠ 21 → r6.1 q = ρ q := fun q b1 b2 b3 b4 b5 b6 b7 b8 b9 b10 b11 => by rw [en.1 q b1 b2 b3 b4 b5 b6 b7, xa.1 q b8, Sq q b1, Rq q b9 b2, t1 q b9 b10 b11 b8, x2.1 q b8]
          have r5 : r6.1 5 = ρ 5 := rq 5 (by decide) (by decide) (by decide) (by decide) (by decide) (by decide) (by decide) (by decide) (by decide) (by decide) (by decide)
          have r7' : r6.1 7 = ρ 7 := rq 7 (by decide) (by decide) (by decide) (by decide) (by decide) (by decide) (by decide) (by decide) (by decide) (by decide) (by decide)
          have s90 : s 90 = V 90 := o.1 90 (by decide) (by decide) (by decide) (by decide)
          have s92 : s 92 = μ 92 := by rw [o.1 92 (by decide) (by decide) (by decide) (by decide), Mq 92 (by decide) (by decide) (by decide) (by decide)]
          have en7 := en.2.2.2.2.2.2
          rcases en7 with en7 | en7
          · exact absurd en7.1 (by decide)
          have e43 : r6.1 4 3 = ρ 4 3 := by rw [en7.2.2.1, xa.1 4 (by decide)]; exact S4' 3 (by decide)
          have e44 : r6.1 4 4 = ρ 4 4 := by rw [en.2.2.2.2.2.1 4 (by decide), xa.1 4 (by decide)]; exact S4' 4 (by decide)
          have s25 : s 82 25 = μ 82 25 := by rw [o.2.1 25 (by decide) (by decide) (by decide) (by decide) (by decide), V82 25 (by decide) (by decide) (by decide) (by decide) (by decide), r782 25 (by decide) (by decide) (by decide) (by decide) (by decide) (by decide), f23.2 25 (by decide) (by decide) (by decide) (by decide)]
          refine ⟨fun t ht => ?_, fun t h1 h2 => ?_, ?_, by rw [e43, s25]; exact p4, ⟨by decide, en.2.2.2.1⟩, fun _ => ⟨by rw [lUp_at]; omega, ?_, ?_, ?_, o.2.2.1, fun i hi => ?_⟩, fun t s' ht hs => ?_⟩
          · rw [lUp_at] at ht
            rw [r5, s90]
            by_cases q : t = c 2
            · rw [q, lUp_at, V90]; exact ⟨by omega, p2 _ (by omega) lt4, rfl⟩
            · rw [lUp_ne q, V90' t q, r7q 90 (by decide), mc.1 90 (by decide) (by decide), f23.1 90 (by decide)]; exact p1 t (by omega)
          · rw [lUp_at] at h1
            rw [r5]; exact p2 t (by omega) h2
          · rw [e44, lUp_at, sumL, sumL_congr (len := len) (c 2) (fun j hj => lUp_ne (by omega)), lUp_at]; exact p3
          · rw [lUp_at, en.2.2.2.2.1 8 (by decide) (by decide) (by decide), xa.1 29 (by decide), Sq 29 (by decide)]; exact R8
          · rw [lUp_at, o.2.1 39 (by decide) (by decide) (by decide) (by decide) (by decide), V82 39 (by decide) (by decide) (by decide) (by decide) (by decide)]; exact e39
          · rw [en7.2.1, xa.1 29 (by decide), Sq 29 (by decide), R12, o.2.1 41 (by decide) (by decide) (by decide) (by decide) (by decide), V41]
          · have : i = 0 := by omega
            rw [this, en.2.1.1, o.2.2.2.1.1]
          · rw [lUp_at] at ht
            rw [r7', s92]
            by_cases q : t = c 2
            · rw [q, lUp_at] at hs; exact absurd hs (Nat.not_lt_zero _)
            · rw [lUp_ne q] at hs; exact p7 t s' (by omega) hs
        ·
          obtain ⟨nz, wz, SL, h1, h2, h3, h4, h5⟩ := la
          have A : ∀ q, SJ (lUp c 2 (c 2 + 1)) (lUp len (c 2) 0) s q ↔ SJ c len μ q := by
            intro q
            have s92 : s 92 = μ 92 := by rw [o.1 92 (by decide) (by decide) (by decide) (by decide), Mq 92 (by decide) (by decide) (by decide) (by decide)]
            unfold SJ
            rw [s92, lUp_at]
            constructor
            · rintro ⟨⟨t, s', b1, b2, b3⟩, b4⟩
              by_cases q2 : t = c 2
              · rw [q2, lUp_at] at b2; exact absurd b2 (Nat.not_lt_zero _)
              · rw [lUp_ne q2] at b2; exact ⟨⟨t, s', by omega, b2, b3⟩, b4⟩
            · rintro ⟨⟨t, s', b1, b2, b3⟩, b4⟩
              exact ⟨⟨t, s', by omega, by rw [lUp_ne (by omega)]; exact b2, b3⟩, b4⟩
          have y24 : r6.1 24 = ρ 24 := by rw [en.1 24 (by decide) (by decide) (by decide) (by decide) (by decide) (by decide) (by decide), xa.1 24 (by decide), Sq 24 (by decide), Rq 24 (by decide) (by decide), t1 24 (by decide) (by decide) (by decide) (by decide), x2.1 24 (by decide)]
          have y23 : r6.2 23 = τ 23 := by rw [g6 23 (by decide), t10 23 (by decide) (by decide), x3 23 (by decide)]
          have s87 : s 87 = μ 87 := by rw [o.1 87 (by decide) (by decide) (by decide) (by decide), Mq 87 (by decide) (by decide) (by decide) (by decide)]
          have s93 : s 93 = μ 93 := by rw [o.1 93 (by decide) (by decide) (by decide) (by decide), Mq 93 (by decide) (by decide) (by decide) (by decide)]
          have s19 : s 82 19 = μ 82 19 := by rw [o.2.1 19 (by decide) (by decide) (by decide) (by decide) (by decide), V82 19 (by decide) (by decide) (by decide) (by decide) (by decide), r782 19 (by decide) (by decide) (by decide) (by decide) (by decide) (by decide), f23.2 19 (by decide) (by decide) (by decide) (by decide)]
          refine ⟨nz, wz, SL, h1, s19.trans h2, fun l hl => ?_, h4, fun q hq => ?_⟩
          · obtain ⟨b1, b2, b3, b4⟩ := h3 l hl
            refine ⟨b1.of (fun i hi => ?_) ?_, (A _).mpr b2, by rw [y23]; exact b3, by rw [y24, s87]; exact b4⟩
            · rw [o.1 85 (by decide) (by decide) (by decide) (by decide), Vq 85 (by decide) (by decide), r7q 85 (by decide), mc.2.2 _ (by omega), f23.1 85 (by decide)]
            · rw [o.1 86 (by decide) (by decide) (by decide) (by decide), Vq 86 (by decide) (by decide), r7q 86 (by decide), mc.2.1 _ (by omega), f23.1 86 (by decide)]
          · rw [s93, y23]
            rcases h5 q ((A q).mp hq) with ⟨k, k1, k2, k4⟩ | h
            · exact Or.inl ⟨k, by rw [lUp_at]; omega, k2, by rw [wsAdd_ne (fun x => by omega)]; exact k4⟩
            · exact Or.inr h
        ·
          have Xq : ∀ q, 8 ≤ q → q ≤ 12 → S q = ρ q := fun q b1 b2 => by rw [Sq q (by omega), Rq q (by omega) (by omega), t1 q (by omega) (by omega) (by omega) (by omega), x2.1 q (by omega)]
          have e2 : lUp c 2 (c 2 + 1) 2 - 1 = c 2 := by rw [lUp_at]; omega
          have el : lUp len (c 2) 0 (lUp c 2 (c 2 + 1) 2 - 1) = 0 := by rw [e2, lUp_at]
          have S29 : S 29 = R 29 := Sq 29 (by decide)
          refine ⟨WVX.opn (ρ := S) (μ := V) (fun t ht => ?_) (fun z hz => ?_) (fun i hi => absurd hi (Nat.not_lt_zero _)) ⟨fun lo cl => ?_, fun i hi => absurd hi (Nat.not_lt_zero _)⟩ xa en o (by decide) ⟨⟨fun _ => rfl, fun _ => rfl⟩, by decide⟩ (fun q => absurd q (by decide)) (fun q => absurd q (by decide)) ?_, fun _ => ⟨fun _ => 0, [], fun _ => [], ?_⟩⟩
          · rw [lUp_at] at ht
            rw [lUp_ne (by omega)]
            exact (wr t (by omega)).of (fun q hq => Xq q (by omega) (by omega)) (fun q hq => Mq q (by omega) (by omega) (by omega) (by omega))
          · rw [el] at hz; exact absurd hz (Nat.not_lt_zero _)
          · rw [Ch.det cl (show Ch (V 102) [] (V 82 37) from V37), S29, R9, R10]
            exact SET.empty
          · rw [o.2.1 40 (by decide) (by decide) (by decide) (by decide) (by decide), V40]
            rcases en.2.2.2.2.2.2 with e | ⟨_, _, _, e | e⟩
            · exact absurd e.1 (by decide)
            · exact absurd e.1 (by decide)
            · rw [e.2, xa.1 29 (by decide), S29, R11]
          · rw [el]
            exact CHW.opn (d := 0) (own := fun _ => 0) (lo := []) (lw := fun _ => []) ⟨⟨V37, fun k hk => absurd hk List.not_mem_nil⟩, fun i hi => absurd hi (Nat.not_lt_zero _), fun _ _ => rfl, fun i hi => absurd hi (Nat.not_lt_zero _), fun i j _ hj => absurd hj (Nat.not_lt_zero _)⟩ o (by decide) (fun q => absurd q (by decide))
    · exfalso
      have : c 2 = 4 := zo_inj (k := c 2) (j := 4) (by omega) (by omega) (Classical.not_not.mp q)
      omega
def JTH (r : zS) : Prop := ∀ t z : Nat, t < 4 → z < 24 → Int32.ofNat z < r 5 t → (r 7 (24 * t + z) = 10 ∨ r 7 (24 * t + z) = 11) → 0 ≤ r 8 (24 * t + z) ∧ r 8 (24 * t + z) < r 4 2
theorem JTH.of {ρ r : zS} (h : JTH ρ) (e : ∀ q, q = 4 ∨ q = 5 ∨ q = 7 ∨ q = 8 → r q = ρ q) : JTH r := by
  unfold JTH at *
  rw [e 4 (by decide), e 5 (by decide), e 7 (by decide), e 8 (by decide)]
  exact h
theorem p_endJ {T : TS} {a N : Nat} {c : Nat → Nat} {ws : Nat → Nat → Int64} {len : Nat → Nat} {ρ : zS} {τ : zT} {μ : zS} (rt : RT T a c ws len ρ τ μ) : zp (zb_Reader_readText_93 N ρ τ) (fun r => r.1 17 6 = 0 → JTH r.1) := by
  obtain ⟨sx, sm, ns, nm, pk, la, wr⟩ := rt
  refine zp_mono (zp_and (p_X_findThreads1 (N := N) ns pk sx.2) (zp_and (wkb_b_Reader_readText_93 (σ0 := ρ) F57.rfl') (wf_b_Reader_readText_93 (σ0 := ρ) fun _ _ _ => rfl))) fun r ⟨h, f, k⟩ w t z ht hz lt kd => ?_
  rw [f.1.1] at lt
  rw [f.1.2] at kd
  have tc : t < c 2 := by
    by_cases q : t < c 2
    · exact q
    · rw [pk.2.1 t (by omega) ht] at lt
      have := (zo_lt (k := z) (j := 0) (by omega) (by omega)).mp lt
      omega
  obtain ⟨l24, e5, _⟩ := pk.1 t tc
  rw [e5] at lt
  have zl := (zo_lt (k := z) (j := len t) (by omega) (by omega)).mp lt
  rw [pk.2.2.2.2.2.2 t z tc zl] at kd
  obtain ⟨j, jc, _, e8⟩ := (h w).1 (24 * t + z) ⟨⟨t, z, tc, zl, rfl⟩, kd⟩
  have c4 : c 2 ≤ 4 := (ns.1 2 (by decide)).1
  rw [e8, k 2 (by decide) (by decide), (ns.1 2 (by decide)).2]
  exact ⟨(zo_le (k := 0) (j := j) (by omega) (by omega)).mpr (Nat.zero_le _), (zo_lt (by omega) (by omega)).mpr jc⟩
theorem WKA.zero {T : TS} {a : Nat} {c : Nat → Nat} {ws : Nat → Nat → Int64} {len : Nat → Nat} {ρ : zS} {τ : zT} {μ : zS} (rt : RT T a c ws len ρ τ μ) (c0 : c 2 = 0) : WKA ρ μ := fun t z ht hz lt => by
  rw [rt.2.2.2.2.1.2.1 t (by omega) ht] at lt
  have := (zo_lt (k := z) (j := 0) (by omega) (by omega)).mp lt
  omega
theorem p_loopK {T : TS} {N N' : Nat} : ∀ (n : Nat) (ρ : zS) (τ : zT) (tv a : Nat), tv ≤ a →
    (∀ c ws len μ m, c 2 = 0 → RT T a c ws len ρ τ μ → zp (zb_Reader_readText_42 N n ρ τ (Int32.ofNat tv)) (fun r => zp (zb_M_read_105 N' m μ) (fun s => r.1 17 6 = 0 → WKA r.1 s.2 ∧ JTH r.1))) ∧
    (∀ c ws len μ m, 0 < c 2 → RT T a c ws len ρ τ μ → WKA ρ μ → zp (zb_Reader_readText_42 N n ρ τ (Int32.ofNat tv)) (fun r => zp (zb_M_read_204 N' m μ) (fun s => r.1 17 6 = 0 → WKA r.1 s.2 ∧ JTH r.1))) ∧
    (∀ c ws nv wv len d μ m j, 0 < d → RLX T a c ws nv wv len d ρ τ μ → WKA ρ μ → zp (zb_Reader_readText_42 N n ρ τ (Int32.ofNat tv)) (fun r => zp ((zb_M_readThread_118 N' m μ).bind fun r16 => zb_M_read_204 N' j r16) (fun s => r.1 17 6 = 0 → WKA r.1 s.2 ∧ JTH r.1))) := by
  intro n
  induction n with
  | zero => intro _ _ _ _ _; exact ⟨fun _ _ _ _ _ _ _ => zp_none, fun _ _ _ _ _ _ _ _ => zp_none, fun _ _ _ _ _ _ _ _ _ _ _ _ => zp_none⟩
  | succ n ih =>
    intro ρ τ tv a hv
    have FA : ∀ {r : zS × zT} {μ : zS} {p : Int32} {m : Nat}, XFl r.1 p → MFl μ p → zp (zb_M_read_105 N' m μ) (fun s => r.1 17 6 = 0 → WKA r.1 s.2 ∧ JTH r.1) := fun x f => fun s _ w => absurd w x.1
    have FB : ∀ {r : zS × zT} {μ : zS} {p : Int32} {m : Nat}, XFl r.1 p → MFl μ p → zp (zb_M_read_204 N' m μ) (fun s => r.1 17 6 = 0 → WKA r.1 s.2 ∧ JTH r.1) := fun x f => fun s _ w => absurd w x.1
    have THR : ∀ c ws len μ m, RT T a c ws len ρ τ μ → WKA ρ μ → T.1 a = 303 → zp (zf_Reader_tellThread N ρ τ) (fun r => zp (zb_Reader_readText_42 N n r.1 r.2 (Int32.ofNat tv + 1)) (fun r' => zp (zb_M_read_204 N' m μ) (fun s => r'.1 17 6 = 0 → WKA r'.1 s.2 ∧ JTH r'.1))) := by
      intro c ws len μ m rt wk hk
      have sm := rt.2.1
      refine zp_mono (zp_and (t_threadK (N' := N') rt hk) (wkb_f_Reader_tellThread (σ0 := ρ) F57.rfl')) fun r hr0 => fun r' e' => ?_
      obtain ⟨hr, hf⟩ := hr0
      cases m with
      | zero => exact zp_none
      | succ m =>
        rw [zb_M_read_204]
        refine zp_ite (fun q => absurd sm.2.2.2 q) fun _ => zp_bind (zp_mono (p_M_isWord sm.d (c := 4) (by decide)) fun u hu => zp_ite (fun q => ?_) fun _ => zp_bind (hr (fun s p x f => ?_) fun s a' c' ws' len' lt rl f98 => ?_))
        · rcases hu with hu | hu
          · exact absurd hk hu.2
          · rw [hu.1] at q; exact absurd q (by decide)
        · exact FB (p_XF_42 x r' e') f
        · have tm : tv ≤ 1500 := by
            have := rt.1.1.2.2.2.2.2.2.2.2
            have := sm.1.2.2.2.2.1
            omega
          rw [zo_1 (by omega)] at e'
          exact zp_unbind ((ih r.1 r.2 (tv + 1) a' (by omega)).2.2 c' ws' 0 _ len' 1 s N' m (by decide) rl (wk.f57 hf f98) r' e')
    have BAD : ∀ {μ : zS}, SX T a ρ τ → SM T a μ → ∀ {Q : zS × zT → Prop}, (∀ r', XFl r'.1 (T.2.1 a) → Q r') → zp ((zf_Reader_failHere ρ 2).bind fun r5 => some (r5.2, τ)) (fun r => zp (zb_Reader_readText_42 N n r.1 r.2 (Int32.ofNat tv + 1)) Q) := by
      intro μ sx sm Q h
      refine zp_bind (zp_mono (p_X_fail (by decide)) fun r hr => zp_some ?_)
      rw [sx.p] at hr
      exact zp_mono (p_XF_42 hr.2) fun r' h' => h r' h'
    have m226 : ∀ {μ : zS}, SM T a μ → ¬ T.1 a = 0 → ∀ {r : zS × zT}, XFl r.1 (T.2.1 a) → zp (zb_M_read_226 N' μ) (fun s => r.1 17 6 = 0 → WKA r.1 s.2 ∧ JTH r.1) := fun {μ} sm hk {r} x => fun s _ w => absurd w x.1
    have W : ∀ {μ : zS}, SM T a μ → ∀ (x k : Int32), k = x + 299 → 1 ≤ x ∧ x ≤ 15 → zp (zf_M_isWord μ x) (fun r => (r = 0 ∧ T.1 a ≠ k) ∨ (r = 1 ∧ T.1 a = k)) := fun sm x k e hx => by rw [e]; exact p_M_isWord sm.d hx
    have lim : ∀ {μ : zS}, SX T a ρ τ → SM T a μ → ¬ (1500 : Int32) < Int32.ofNat tv := by
      intro μ sx sm q
      have h1 := sx.1.2.2.2.2.2.2.2.2
      have h2 := sm.1.2.2.2.2.1
      have := (zo_lt (k := 1500) (j := tv) (by omega) (by omega)).mp q
      omega
    refine ⟨fun c ws len μ m c0 rt => ?_, fun c ws len μ m c1 rt wk => ?_, fun c ws nv wv len d μ m j hd rl wk => ?_⟩
    ·
      have sx := rt.1
      have sm := rt.2.1
      have tm : tv ≤ 1500 := by
        have := sx.1.2.2.2.2.2.2.2.2
        have := sm.1.2.2.2.2.1
        omega
      have d0 : ρ 29 6 = 0 := rt.2.2.2.2.1.2.2.2.2.1.2
      have e42 : ρ 4 2 = 0 := by rw [(rt.2.2.1.1 2 (by decide)).2, c0]; rfl
      rw [zb_Reader_readText_42]
      refine zp_ite (fun q => absurd q (lim sx sm)) fun _ => zp_ite (fun q => absurd sx.2 q) fun _ => zp_ite (fun _ => ?_) fun q => absurd (by rw [d0]; decide) q
      rw [sx.k]
      have ex204 : ∀ {r : zS × zT}, (¬ T.1 a = 300 ∧ ¬ T.1 a = 301 ∧ ¬ T.1 a = 302) → (∀ m', zp (zb_M_read_204 N' m' μ) (fun s => r.1 17 6 = 0 → WKA r.1 s.2 ∧ JTH r.1)) → zp (zb_M_read_105 N' m μ) (fun s => r.1 17 6 = 0 → WKA r.1 s.2 ∧ JTH r.1) := by
        intro r hk h
        cases m with
        | zero => exact zp_none
        | succ m =>
          rw [zb_M_read_105]
          refine zp_ite (fun q => absurd sm.2.2.2 q) fun _ => zp_bind (zp_mono (W sm 1 300 rfl (by decide)) fun u hu => zp_ite (fun q => ?_) fun _ => zp_bind (zp_mono (W sm 2 301 rfl (by decide)) fun u hu => zp_ite (fun q => ?_) fun _ => zp_bind (zp_mono (W sm 3 302 rfl (by decide)) fun u hu => zp_ite (fun _ => h N') fun q => ?_)))
          · rcases hu with hu | hu
            · exact absurd hu.1 q
            · exact absurd hu.2 hk.1
          · rcases hu with hu | hu
            · exact absurd hu.1 q
            · exact absurd hu.2 hk.2.1
          · rcases hu with hu | hu
            · exact absurd hu.1 q
            · exact absurd hu.2 hk.2.2
      have ex226 : ∀ {r : zS × zT}, (¬ T.1 a = 303) → zp (zb_M_read_226 N' μ) (fun s => r.1 17 6 = 0 → WKA r.1 s.2 ∧ JTH r.1) → ∀ m', zp (zb_M_read_204 N' m' μ) (fun s => r.1 17 6 = 0 → WKA r.1 s.2 ∧ JTH r.1) := by
        intro r hk h m'
        cases m' with
        | zero => exact zp_none
        | succ m' =>
          rw [zb_M_read_204]
          refine zp_ite (fun q => absurd sm.2.2.2 q) fun _ => zp_bind (zp_mono (W sm 4 303 rfl (by decide)) fun u hu => zp_ite (fun _ => h) fun q => ?_)
          rcases hu with hu | hu
          · exact absurd hu.1 q
          · exact absurd hu.2 hk
      refine zp_ite (fun k0 => ?_) fun k0 => ?_
      · refine zp_mono (zp_and (wkb_b_Reader_readText_93 (σ0 := ρ) F57.rfl') (p_endJ rt)) fun r ⟨hf, hj⟩ => ex204 (by rw [k0]; decide) (ex226 (by rw [k0]; decide) ?_)
        unfold zb_M_read_226
        exact zp_ite (fun q => absurd sm.2.2.2 q) fun _ => zp_ite (fun _ => zp_mono (wkc_b_M_read_244 (σ0 := μ) F98.rfl') fun s hs w => ⟨(WKA.zero rt c0).f57 hf hs, hj w⟩) fun q => absurd (sm.d.fin.mpr k0) q
      · refine zp_bind ?_
        unfold zb_Reader_readText_87 zf_Reader_readTelling
        rw [sx.k]
        refine zp_ite (fun q => absurd e42 q) fun _ => ?_
        unfold zb_Reader_readTelling_23
        have nxt : ∀ {r : zS × zT} (m' : Nat) (s : zS), OUTT T a r.1 r.2 s → zp (zb_Reader_readText_42 N n r.1 r.2 (Int32.ofNat tv + 1)) (fun r' => zp (zb_M_read_105 N' m' s) (fun s => r'.1 17 6 = 0 → WKA r'.1 s.2 ∧ JTH r'.1)) := by
          intro r m' s o
          rcases o with ⟨p, x, f⟩ | ⟨a', c', ws', len', lt, c0', rt'⟩
          · exact zp_mono (p_XF_42 x) fun r' h' => FA h' f
          · rw [zo_1 (by omega)]
            exact (ih r.1 r.2 (tv + 1) a' (by omega)).1 c' ws' len' s m' c0' rt'
        have fld : ∀ o, (T.1 a = 300 ∨ T.1 a = 301) → zp (zb_Reader_readTelling_55 N ρ τ o) (fun r => zp (zb_Reader_readText_42 N n r.1 r.2 (Int32.ofNat tv + 1)) (fun r' => zp (zb_M_read_105 N' m μ) (fun s => r'.1 17 6 = 0 → WKA r'.1 s.2 ∧ JTH r'.1))) := by
          intro o hk
          have kk : ¬ T.1 a = 0 ∧ ¬ T.1 a = 1 := by rcases hk with h | h <;> rw [h] <;> decide
          unfold zb_Reader_readTelling_55
          refine zp_bind (fun r er => zp_some fun r' e' => ?_)
          have go136 : ∀ m', zp (zb_M_read_136 (zb_M_read_105 N' m') N' μ) (fun s => r'.1 17 6 = 0 → WKA r'.1 s.2 ∧ JTH r'.1) := by
            intro m'
            unfold zb_M_read_136
            refine zp_bind (zp_mono (W sm 3 302 rfl (by decide)) fun u hu => zp_ite (fun _ => zp_bind fun r21 _ => zp_bind (zp_mono (t_field (N' := N') (x := r21) rt c0 kk r er) fun s hs => nxt m' s hs r' e')) fun q => ?_)
            rcases hu with hu | hu
            · exact absurd hu.1 q
            · rcases hk with h | h <;> rw [hu.2] at h <;> exact absurd h (by decide)
          cases m with
          | zero => exact zp_none
          | succ m =>
            rw [zb_M_read_105]
            refine zp_ite (fun q => absurd sm.2.2.2 q) fun _ => zp_bind (zp_mono (W sm 1 300 rfl (by decide)) fun u hu => zp_ite (fun _ => go136 m) fun q => zp_bind (zp_mono (W sm 2 301 rfl (by decide)) fun w hw => zp_ite (fun _ => go136 m) fun q2 => ?_))
            exfalso
            rcases hu with hu | hu
            · rcases hw with hw | hw
              · exact hk.elim hu.2 hw.2
              · exact q2 (by rw [hw.1]; decide)
            · exact q (by rw [hu.1]; decide)
        have f42 : (T.1 a = 300 ∨ T.1 a = 301) → zp (zb_Reader_readTelling_42 N ρ τ (T.1 a)) (fun r => zp (zb_Reader_readText_42 N n r.1 r.2 (Int32.ofNat tv + 1)) (fun r' => zp (zb_M_read_105 N' m μ) (fun s => r'.1 17 6 = 0 → WKA r'.1 s.2 ∧ JTH r'.1))) := by
          intro hk
          unfold zb_Reader_readTelling_42
          exact zp_ite (fun _ => fld 0 hk) fun _ => fld 1 hk
        refine zp_ite (fun q => absurd q (by decide)) fun _ => zp_ite (fun k => f42 (Or.inl k)) fun n0 => zp_ite (fun n1 => ?_) fun n1 => f42 (Or.inr (Classical.not_not.mp n1))
        unfold zb_Reader_readTelling_61 zb_Reader_readTelling_79
        refine zp_ite (fun q => absurd q (by decide)) fun _ => zp_ite (fun n2 => zp_ite (fun n3 => ?_) fun n3 => ?_) fun n2 => ?_
        · exact BAD sx sm fun r' h' => ex204 ⟨n0, n1, n2⟩ (ex226 n3 (m226 sm k0 h'))
        · refine zp_bind (zp_mono (fun r er => er) fun r er => zp_some ?_)
          refine fun r' e' => ex204 ⟨n0, n1, n2⟩ fun m' => THR c ws len μ m' rt (WKA.zero rt c0) (Classical.not_not.mp n3) r er r' e'
        · have k2 : T.1 a = 302 := Classical.not_not.mp n2
          refine zp_bind (zp_mono (t_lock (N' := N') rt c0 k2) fun r hr => zp_some fun r' e' => ?_)
          cases m with
          | zero => exact zp_none
          | succ m =>
            have go := hr (Q := fun s => r'.1 17 6 = 0 → WKA r'.1 s.2 ∧ JTH r'.1) (zb_M_read_105 N' m) fun s hs => nxt m s hs r' e'
            rw [zb_M_read_105]
            refine zp_ite (fun q => absurd sm.2.2.2 q) fun _ => zp_bind (zp_mono (W sm 1 300 rfl (by decide)) fun u hu => zp_ite (fun _ => go) fun q => zp_bind (zp_mono (W sm 2 301 rfl (by decide)) fun w hw => zp_ite (fun _ => go) fun q2 => zp_bind (zp_mono (W sm 3 302 rfl (by decide)) fun w hw => zp_ite (fun q3 => ?_) fun _ => go)))
            rcases hw with hw | hw
            · exact absurd k2 hw.2
            · rw [hw.1] at q3; exact absurd q3 (by decide)
    ·
      have sx := rt.1
      have sm := rt.2.1
      have d0 : ρ 29 6 = 0 := rt.2.2.2.2.1.2.2.2.2.1.2
      have e42 : ¬ ρ 4 2 = 0 := by
        rw [(rt.2.2.1.1 2 (by decide)).2]
        have := (rt.2.2.1.1 2 (by decide)).1
        have := cap_le 2
        intro q
        have := zo_inj (k := c 2) (j := 0) (by omega) (by omega) q
        omega
      rw [zb_Reader_readText_42]
      refine zp_ite (fun q => absurd q (lim sx sm)) fun _ => zp_ite (fun q => absurd sx.2 q) fun _ => zp_ite (fun _ => ?_) fun q => absurd (by rw [d0]; decide) q
      rw [sx.k]
      have ex226 : ∀ {r : zS × zT}, (¬ T.1 a = 303) → zp (zb_M_read_226 N' μ) (fun s => r.1 17 6 = 0 → WKA r.1 s.2 ∧ JTH r.1) → zp (zb_M_read_204 N' m μ) (fun s => r.1 17 6 = 0 → WKA r.1 s.2 ∧ JTH r.1) := by
        intro r hk h
        cases m with
        | zero => exact zp_none
        | succ m' =>
          rw [zb_M_read_204]
          refine zp_ite (fun q => absurd sm.2.2.2 q) fun _ => zp_bind (zp_mono (W sm 4 303 rfl (by decide)) fun u hu => zp_ite (fun _ => h) fun q => ?_)
          rcases hu with hu | hu
          · exact absurd hu.1 q
          · exact absurd hu.2 hk
      refine zp_ite (fun k0 => ?_) fun k0 => ?_
      · refine zp_mono (zp_and (wkb_b_Reader_readText_93 (σ0 := ρ) F57.rfl') (p_endJ rt)) fun r ⟨hf, hj⟩ => ex226 (by rw [k0]; decide) ?_
        unfold zb_M_read_226
        exact zp_ite (fun q => absurd sm.2.2.2 q) fun _ => zp_ite (fun _ => zp_mono (wkc_b_M_read_244 (σ0 := μ) F98.rfl') fun s hs w => ⟨wk.f57 hf hs, hj w⟩) fun q => absurd (sm.d.fin.mpr k0) q
      · refine zp_bind ?_
        unfold zb_Reader_readText_87 zf_Reader_readTelling zb_Reader_readTelling_23 zb_Reader_readTelling_61 zb_Reader_readTelling_79
        rw [sx.k]
        refine zp_ite (fun _ => zp_ite (fun _ => zp_ite (fun _ => zp_ite (fun n3 => ?_) fun n3 => ?_) fun q => absurd rfl q) fun q => absurd rfl q) fun q => absurd e42 q
        · exact BAD sx sm fun r' h' => ex226 n3 (m226 sm k0 h')
        · exact zp_bind (zp_mono (THR c ws len μ m rt wk (Classical.not_not.mp n3)) fun r hr => zp_some hr)
    ·
      have sx := rl.1
      have sm := rl.2.1
      have pk := rl.2.2.2.2.1
      have h6 := pk.2.2.2.2.1
      have h46 := (pk.2.2.2.2.2.1 hd).2.2.2.2.1
      have c1 := (pk.2.2.2.2.2.1 hd).1
      have tm : tv ≤ 1500 := by
        have := sx.1.2.2.2.2.2.2.2.2
        have := sm.1.2.2.2.2.1
        omega
      have dpos : ∀ x : Int32, x = Int32.ofNat d → ¬ x ≤ 0 := fun x e q => by
        rw [e] at q
        have := (zo_le (k := d) (j := 0) (by omega) (by omega)).mp q
        omega
      rw [zb_Reader_readText_42]
      refine zp_ite (fun q => absurd q (lim sx sm)) fun _ => zp_ite (fun q => absurd sx.2 q) fun _ => zp_ite (fun q => absurd q (dpos _ h6.2)) fun _ => zp_bind (zp_mono (zp_and (s_stmt (N' := N') rl hd) (s_stmtK (N' := N') rl hd wk)) fun r hr0 => ?_)
      obtain ⟨hr, hrk⟩ := hr0
      unfold zb_Reader_readText_87
      have nxt : ∀ (m' : Nat) (s : zS), OUT T a c ws r.1 r.2 s → (r.1 17 6 = 0 → WKA r.1 s) → zp (zb_Reader_readText_42 N n r.1 r.2 (Int32.ofNat tv + 1)) (fun r' => zp ((zb_M_readThread_118 N' m' s).bind fun r16 => zb_M_read_204 N' j r16) (fun s => r'.1 17 6 = 0 → WKA r'.1 s.2 ∧ JTH r'.1)) := by
        intro m' s o wk'
        rcases o with ⟨p, x, f⟩ | ⟨a', nv', wv', len', d', lt, z46, rl'⟩
        · exact zp_mono (p_XF_42 x) fun r' h' => zp_bind (p_F_118 f (FB h' f))
        · rw [zo_1 (by omega)]
          by_cases e : d' = 0
          · subst e
            obtain ⟨z0, wvp, ⟨lo, hc⟩, h39⟩ := z46 rfl
            have c4' : c 2 ≤ 4 := rl'.2.2.1.1.c2
            have hl' := rl'.2.2.2.2.1.1 (c 2 - 1) (by omega)
            cases m' with
            | zero => exact fun _ _ => zp_bind zp_none
            | succ m' =>
              intro r' e'
              refine zp_bind ?_
              rw [zb_M_readThread_118]
              have s9 := rl'.2.1.2.2.2
              refine zp_ite (fun q => absurd s9 q) fun _ => zp_ite (fun _ => zp_mono (zp_and (p_M_155 s9) (p_M_155W s9 h39 (by omega) hl'.2.2 hl'.1 hc)) fun r16 w => ?_) fun q => absurd (by rw [z0]; decide) q
              exact (ih r.1 r.2 (tv + 1) a' (by omega)).2.1 c ws len' r16 j c1 (rl'.rt w.1 (wvp.fin hc w.2.1 w.2.2.1 w.2.2.2.2) (fun q hq => ⟨w.2.2.2.1 q hq, by rw [w.2.1 q, if_neg (fun x => by omega)]⟩)) ((wk' rl'.1.2).f57 F57.rfl' fun p h1 h2 => w.1.1 p (by omega) (by omega) (by omega) (by omega)) r' e'
          · exact (ih r.1 r.2 (tv + 1) a' (by omega)).2.2 c ws nv' wv' len' d' s m' j (by omega) rl' (wk' rl'.1.2)
      intro r' e'
      cases m with
      | zero => exact zp_bind zp_none
      | succ m =>
        refine zp_bind ?_
        rw [zb_M_readThread_118]
        refine zp_ite (fun q => absurd sm.2.2.2 q) fun _ => zp_ite (fun q => absurd q (dpos _ h46)) fun _ => zp_bind (zp_mono (p_M_isSign sm.d (c := 125) (by decide)) fun u hu => zp_ite (fun z => ?_) fun z => ?_)
        · rcases hr with ⟨k, _⟩ | ⟨k, h⟩
          · rcases hu with hu | hu
            · exact absurd k hu.2
            · rw [hu.1] at z; exact absurd z (by decide)
          · exact zp_bind (zp_mono (zp_and h (hrk.2 k)) fun s hs => zp_unbind (nxt m s hs.1 hs.2 r' e'))
        · rcases hr with ⟨k, h⟩ | ⟨k, _⟩
          · exact zp_bind (zp_mono (zp_and h (hrk.1 k)) fun s hs => zp_unbind (nxt m s hs.1 hs.2 r' e'))
          · rcases hu with hu | hu
            · exact absurd hu.1 z
            · exact absurd hu.2 k
theorem p_readTextK {N : Nat} {σ : zS} {τ : zT} (rs : RS τ) (tp : 0 ≤ σ 82 2 ∧ σ 82 2 ≤ 1500) (eq : σ 2 11 = σ 82 2) (te : σ 3 = σ 83) (br : ∀ i, -128 ≤ σ 83 i ∧ σ 83 i ≤ 127) : zp (zf_Reader_readText N σ τ (σ 2 11)) (fun r => ∀ μ, (∀ q, 82 ≤ q → μ q = σ q) → zp (zf_M_read N μ) (fun s => r.1 17 6 = 0 → WKA r.1 s.2 ∧ JTH r.1)) := by
  unfold zf_Reader_readText zf_Names_clear zf_Weaver_beginThread
  refine zp_bind (zp_mono p_X_clear ?_)
  rintro r1 ⟨c1, c2, c3⟩
  refine zp_bind (zp_some (zp_bind (zp_some ?_)))
  generalize hS : (zx_up (zx_up (zx_up (zx_up (zx_up (zx_up (zx_up (zx_up (zx_up r1 18 3 0) 18 5 0) 29 8 0) 29 6 0) 29 7 (-1)) 29 9 0) 29 10 0) 29 11 0) 29 12 (-1)) = S
  have Sq : ∀ q, q ≠ 18 → q ≠ 29 → S q = r1 q := fun q a b => by
    rw [← hS]
    iterate 7 rw [zu_other b]
    rw [zu_other a, zu_other a]
  have S183 : S 18 3 = 0 := by rw [← hS]; simp [zx_up]
  have S296 : S 29 6 = 0 := by rw [← hS]; simp [zx_up]
  clear hS
  rw [eq]
  refine zp_bind (zp_mono (p_X_scan rs tp) ?_)
  rintro r4 ⟨s1, s2, s3, E, m, xc⟩
  intro r er μ hm
  have S3 : S 3 = σ 83 := by rw [Sq 3 (by decide) (by decide), c1 3 (by decide) (by decide) (by decide), zu_other (by decide), zu_other (by decide)]; exact te
  have go20 : ∀ (n i : Nat) (ν : zS), Int32.ofNat i ≤ σ 82 2 → i ≤ 1500 → (∀ q, q ≠ 84 → q ≠ 82 → ν q = μ q) → ν 82 4 = σ 82 2 → (∀ j, j < i → ν 84 j = σ 83 j) → zp (zb_M_read_20 N n ν (Int32.ofNat i)) (fun s => r.1 17 6 = 0 → WKA r.1 s.2 ∧ JTH r.1) := by
    intro n
    induction n with
    | zero => intro _ _ _ _ _ _ _; exact zp_none
    | succ n ih =>
      intro i ν hi i15 f4 e4 cp
      rw [zb_M_read_20, e4]
      refine zp_ite (fun q => ?_) fun q => zp_chk fun ck => zp_chk fun _ => ?_
      ·
        have ei : Int32.ofNat i = σ 82 2 := Int32.le_antisymm hi q
        generalize hV : (zx_up (zx_up (zx_up (zx_up (zx_up (zx_up (zx_up (zx_up (zx_up (zx_up (zx_up ν 82 9 0) 82 10 0) 82 15 0) 82 16 0) 82 17 0) 82 25 0) 82 19 0) 82 5 0) 82 6 0) 82 53 0) 82 62 (-1)) = V
        have Vq : ∀ q, q ≠ 82 → V q = ν q := fun q hq => by rw [← hV]; iterate 11 rw [zu_other hq]
        have V4 : V 82 4 = σ 82 2 := by rw [← hV]; simp [zx_up]; exact e4
        have V0 : ∀ i, i = 5 ∨ i = 6 ∨ i = 9 ∨ i = 15 ∨ i = 16 ∨ i = 17 ∨ i = 19 ∨ i = 25 → V 82 i = 0 := fun i hi => by
          rw [← hV]
          rcases hi with h | h | h | h | h | h | h | h <;> subst h <;> simp [zx_up]
        clear hV
        have nat : ∀ x : Int32, 0 ≤ x → x < σ 82 2 → x.toNatClampNeg < i := by
          intro x h0 hx
          rw [← ei] at hx
          have a := z_nat h0
          have b := zo_ti (m := i) (by omega)
          have c := Int32.lt_iff_toInt_lt.mp hx
          omega
        have tbx := xc.tb (b' := V 84) tp.2 (by
          intro x h0 hx
          rw [S3, Vq 84 (by decide), cp _ (nat x h0 hx)])
        obtain ⟨tb, xat⟩ := tbx
        rw [← V4] at tb
        have brV : BR V := by
          intro x h0 hx
          rw [V4] at hx
          rw [Vq 84 (by decide), cp _ (nat x h0 hx)]
          exact br _
        refine zp_bind (zp_mono (p_M_at tb (a := 0) tb.2.2.2.1 (by rw [V0 5 (by decide), V0 6 (by decide), tb.2.2.1]; decide)) ?_)
        rintro ν2 ⟨mat, f2⟩
        have e84 := f2.1 84 (by decide)
        have e24 := f2.2 4 (by decide) (by decide) (by decide) (by decide)
        have z0 : ∀ i, i = 9 ∨ i = 15 ∨ i = 16 ∨ i = 17 ∨ i = 19 ∨ i = 25 → ν2 82 i = 0 := fun i hi => by rw [f2.2 i (by omega) (by omega) (by omega) (by omega)]; exact V0 i (by omega)
        have q17 : r4.1 17 6 = 0 := by rw [s1 17 (by decide) (by decide) (by decide), Sq 17 (by decide) (by decide), c1 17 (by decide) (by decide) (by decide), zx_up_same, zu_ne (by decide), zx_up_same, zu_eq]
        have q4 : ∀ i, i < 7 → r4.1 4 i = 0 := fun i hi => by rw [s1 4 (by decide) (by decide) (by decide), Sq 4 (by decide) (by decide)]; exact c2 i hi
        refine (p_loopK (T := (r4.1 26, r4.1 27, r4.2 28, E, m)) (N := N) (N' := N) N r4.1 r4.2 0 0 (Nat.le_refl _)).1 (fun _ => 0) (fun _ _ => 0) (fun _ => 0) ν2 N rfl ⟨⟨xat, q17⟩, ⟨by rw [e84, e24]; exact tb, by unfold BR; rw [e84, e24]; exact brV, mat, z0 9 (by decide)⟩, ?_, ?_, ?_, ?_, fun t ht => absurd ht (Nat.not_lt_zero _)⟩ r er
        · refine ⟨fun s hs => ⟨Nat.zero_le _, q4 s (by omega)⟩, ?_, fun i hi => absurd hi (Nat.not_lt_zero _), fun s k _ hk => absurd hk (Nat.not_lt_zero _), fun i j hi => absurd hi (Nat.not_lt_zero _)⟩
          rw [s1 18 (by decide) (by decide) (by decide)]; exact S183
        · exact fun s hs => ⟨Nat.zero_le _, z0 (15 + s) (by omega), fun k hk => absurd hk (Nat.not_lt_zero _)⟩
        · refine ⟨fun t ht => absurd ht (Nat.not_lt_zero _), fun t _ h4 => ?_, q4 4 (by decide), ⟨by rw [q4 3 (by decide), z0 25 (by decide)], by rw [q4 3 (by decide)]; decide⟩, ⟨by omega, ?_⟩, fun h => absurd h (Nat.lt_irrefl _), fun t s ht => absurd ht (Nat.not_lt_zero _)⟩
          · rw [s1 5 (by decide) (by decide) (by decide), Sq 5 (by decide) (by decide)]; exact c3 t h4
          · rw [s1 29 (by decide) (by decide) (by decide)]; exact S296
        · exact ⟨0, fun _ => 0, fun _ => 0, by omega, z0 19 (by decide), fun l hl => absurd hl (Nat.not_lt_zero _), fun l l' _ hl' => absurd hl' (Nat.not_lt_zero _), fun q hq => absurd hq.1.choose_spec.choose_spec.1 (Nat.not_lt_zero _)⟩
      · have lt := Int32.not_le.mp q
        have i14 : i < 1500 := (zo_lt (k := i) (j := 1500) (by omega) (by omega)).mp ck.2
        rw [zo_n (by omega), zo_1 (by omega)]
        have e83 : ν 83 = σ 83 := by rw [f4 83 (by decide) (by decide), hm 83 (by decide)]
        refine ih (i + 1) _ ?_ (by omega) (fun q a b => by rw [zu_other a]; exact f4 q a b) (by rw [zu_other (by decide)]; exact e4) (fun j hj => ?_)
        · rw [← zo_1 (by omega)]
          have a := Int32.lt_iff_toInt_lt.mp lt
          have b := zo_ti (m := i) (by omega)
          rw [zo_1 (by omega)]
          exact Int32.le_iff_toInt_le.mpr (by rw [zo_ti (by omega)]; omega)
        · rw [zx_up_same]
          by_cases e : j = i
          · rw [e, zu_eq, e83, zk_byte (br i).1 (br i).2]
          · rw [zu_ne e]; exact cp j (by omega)
  unfold zf_M_read
  have e2 : μ 82 2 = σ 82 2 := by rw [hm 82 (by decide)]
  refine go20 N 0 _ tp.1 (by omega) (fun q a b => ?_) ?_ (fun j hj => absurd hj (Nat.not_lt_zero _))
  · rw [zu_other b, zu_other b, zu_other b]
  · rw [zx_up_same, zu_ne (by decide), zx_up_same, zu_eq]; exact e2
theorem p_readK {N : Nat} {σ : zS} {τ : zT} (rs : RS τ) (tp : 0 ≤ σ 82 2 ∧ σ 82 2 ≤ 1500) (eq : σ 2 11 = σ 82 2) (te : σ 3 = σ 83) (br : ∀ i, -128 ≤ σ 83 i ∧ σ 83 i ≤ 127) : zp (zf_X_read N σ τ) (fun r => ∀ μ, (∀ q, 82 ≤ q → μ q = σ q) → zp (zf_M_read N μ) (fun s => r.2.1 2 13 = 1 → WKA r.2.1 s.2 ∧ JTH r.2.1)) := by
  unfold zf_X_read
  refine zp_bind (zp_mono (p_readTextK rs tp eq te br) fun r1 h1 => ?_)
  have f40 : ∀ s0 : Int32, zp (zb_X_read_40 N (zx_up (zx_up r1.1 2 11 0) 2 12 (r1.1 17 6)) r1.2 s0) (fun r => r.2.1 2 13 = s0 ∧ ∀ q, q ≠ 2 → q ≠ 75 → q ≠ 76 → r.2.1 q = r1.1 q) := by
    intro s0
    unfold zb_X_read_40 zf_Judge_forget
    refine zp_chk fun _ => zp_bind (zp_some (zp_bind (zp_mono y_fill fun r5 h5 => ?_)))
    have e13 : r5 2 13 = s0 := by
      rw [h5 2 (by decide), zu_other (by decide), zx_up_same, zu_ne (by decide), zx_up_same, zu_ne (by decide), zx_up_same, zu_ne (by decide), zx_up_same, zu_eq]
    have e4 : ∀ q, q ≠ 2 → q ≠ 75 → q ≠ 76 → r5 q = r1.1 q := fun q a b c => by
      rw [h5 q b, zu_other c]
      iterate 6 rw [zu_other a]
    exact zp_ite (fun _ => zp_some ⟨e13, e4⟩) fun _ => zp_some ⟨e13, e4⟩
  refine zp_ite (fun z => zp_mono (f40 0) fun r hr μ hm => zp_mono (h1 μ hm) fun s hs w => ?_) fun z => zp_mono (f40 1) fun r hr μ hm => zp_mono (h1 μ hm) fun s hs w => ?_
  · rw [hr.1] at w
    exact absurd w (by decide)
  · have k := hs (Classical.not_not.mp z)
    have e := fun q a b c => hr.2 q a b c
    exact ⟨k.1.f57 (F57.of fun q hq => e q (by omega) (by omega) (by omega)) F98.rfl', k.2.of fun q hq => e q (by omega) (by omega) (by omega)⟩
