-- both answer alike
set_option maxRecDepth 2000
theorem p_F_118 {N n : Nat} {μ : zS} {p : Int32} {Q : zS → Prop} (h : MFl μ p) (q : Q μ) : zp (zb_M_readThread_118 N n μ) Q := by
  cases n with
  | zero => exact zp_none
  | succ n =>
    rw [zb_M_readThread_118]
    unfold zb_M_readThread_155
    exact zp_ite (fun _ => zp_ite (fun e => absurd e h.1) fun _ => zp_some q) fun e => absurd (Classical.not_not.mp e) h.1
theorem t_thread {T : TS} {a N N' : Nat} {c : Nat → Nat} {ws : Nat → Nat → Int64} {len : Nat → Nat} {ρ : zS} {τ : zT} {μ : zS} (rt : RT T a c ws len ρ τ μ) (hk : T.1 a = 303) : zp (zf_Reader_tellThread N ρ τ) (fun r => ∀ {Q : zS → Prop}, (∀ s p, XFl r.1 p → MFl s p → Q s) → (∀ s a' c' ws' len', a < a' → RLX T a' c' ws' 0 (fun _ => 0) len' 1 r.1 r.2 s → zp (zb_M_readThread_118 N' N' s) Q) → zp (zf_M_readThread N' μ) Q) := by
  obtain ⟨sx, sm, ns, nm, pk, la, wr⟩ := rt
  have kk : ¬ T.1 a = 0 ∧ ¬ T.1 a = 1 := by rw [hk]; decide
  unfold zf_Reader_tellThread
  refine zp_bind (zp_mono (sx.adv sm.1 kk) ?_)
  rintro r1 ⟨x1, x2, x3⟩
  have e42 : r1.1 4 2 = Int32.ofNat (c 2) := by rw [x2.1 4 (by decide)]; exact (ns.1 2 (by decide)).2
  have c24 : c 2 ≤ 4 := (ns.1 2 (by decide)).1
  have ns1 : NX3 c ws r1.1 r1.2 := ns.of (fun s _ => by rw [x2.1 4 (by decide)]) (by rw [x2.1 18 (by decide)]) (x2.1 20 (by decide)) (x2.1 21 (by decide)) (x3 19 (by decide))
  rw [e42]
  refine zp_bind (zp_mono (p_tell (N' := N') (s := 2) sm.1 x1 ns1 (by decide)) fun r2 h2 => ?_)
  have nm1 : ∀ r23, NX0 μ r23 → NM3 c ws r23 ∧ r23 82 17 = Int32.ofNat (c 2) := fun r23 f => by
    have n' := nm.of (ν := r23) (fun i hi => f.2 i (by omega) (by omega) (by omega) (by omega)) (fun p _ => by rw [f.1 86 (by decide)]) (fun p _ => by rw [f.1 85 (by decide)])
    exact ⟨n', (n' 2 (by decide)).2.1⟩
  rcases h2 with ⟨e, fl, hw⟩ | ⟨e, k3, lt, sx2, no, tld, m⟩
  · refine zp_ite (fun _ => zp_some fun {Q} kA kB => ?_) fun q => absurd e q
    unfold zf_M_readThread
    refine zp_bind (zp_mono (sm.nx kk) ?_)
    rintro r23 ⟨s23, f23⟩
    obtain ⟨n23, e17⟩ := nm1 r23 f23
    have can : zp ((zf_M_cannot r23).bind fun r => some r) Q := zp_bind (zp_mono (p_M_cannot s23.2.2.2) fun s hs => zp_some (kA s _ fl (by rw [← s23.p]; exact hs)))
    have flm : ∀ k, zp ((zf_M_fail r23 k).bind fun r => some r) Q := fun k => zp_bind (zp_mono (p_M_fail s23.2.2.2) fun s hs => zp_some (kA s _ fl (by rw [← s23.p]; exact hs)))
    rcases hw with k3 | ⟨k3, m⟩ | ⟨k3, full, m⟩
    · exact zp_ite (fun q => absurd (s23.d.name.mp q) k3) fun _ => can
    · exact zp_ite (fun _ => zp_bind (zp_mono (m r23 s23 n23) fun u hu => zp_ite (fun q => absurd (q.symm.trans hu) (by decide)) fun _ => flm 3)) fun _ => can
    · exact zp_ite (fun _ => zp_bind (zp_mono (m r23 s23 n23) fun u hu => zp_ite (fun _ => zp_ite (fun q => absurd (by rw [e17, full]; rfl) q) fun _ => flm 4) fun _ => flm 3)) fun _ => can
  · have lt4 : c 2 < 4 := lt
    refine zp_ite (fun q => absurd (q.symm.trans e) (by decide)) fun _ => ?_
    unfold zf_Names_forgetLocals zf_Weaver_beginThread
    refine zp_bind (zp_some (zp_bind (zp_some ?_)))
    obtain ⟨t1, t2, t3, t4, t5, t6, t7, t8, t9, t10⟩ := tld
    have f42 : (zx_up r2.2.1 18 5 0) 4 2 = Int32.ofNat (c 2) := by rw [zu_other (by decide), t1 4 (by decide) (by decide) (by decide) (by decide)]; exact e42
    rw [f42]
    generalize hR : (zx_up (zx_up (zx_up (zx_up (zx_up (zx_up (zx_up (zx_up r2.2.1 18 5 0) 29 8 (Int32.ofNat (c 2))) 29 6 0) 29 7 (-1)) 29 9 0) 29 10 0) 29 11 0) 29 12 (-1)) = R
    have Rq : ∀ q, q ≠ 18 → q ≠ 29 → R q = r2.2.1 q := fun q a b => by rw [← hR, zu_other b, zu_other b, zu_other b, zu_other b, zu_other b, zu_other b, zu_other b, zu_other a]
    have R183 : R 18 3 = r2.2.1 18 3 := by rw [← hR]; iterate 7 rw [zu_other (by decide)]
                                           rw [zx_up_same, zu_ne (by decide)]
    have R185 : R 18 5 = 0 := by rw [← hR]; iterate 7 rw [zu_other (by decide)]
                                 rw [zx_up_same, zu_eq]
    have R6 : R 29 6 = 0 := by rw [← hR]; iterate 5 rw [zx_up_same, zu_ne (by decide)]
                               rw [zx_up_same, zu_eq]
    have R8 : R 29 8 = Int32.ofNat (c 2) := by rw [← hR]; iterate 6 rw [zx_up_same, zu_ne (by decide)]
                                               rw [zx_up_same, zu_eq]
    have R12 : R 29 12 = -1 := by rw [← hR, zx_up_same, zu_eq]
    have R11 : R 29 11 = 0 := by rw [← hR, zx_up_same, zu_ne (by decide), zx_up_same, zu_eq]
    have R10 : R 29 10 = 0 := by rw [← hR]; iterate 2 rw [zx_up_same, zu_ne (by decide)]
                                 rw [zx_up_same, zu_eq]
    have R9 : R 29 9 = 0 := by rw [← hR]; iterate 3 rw [zx_up_same, zu_ne (by decide)]
                               rw [zx_up_same, zu_eq]
    clear hR
    have e4 : R 4 2 = Int32.ofNat (c 2) := by rw [Rq 4 (by decide) (by decide), t1 4 (by decide) (by decide) (by decide) (by decide)]; exact e42
    rw [e4, zo_1 (by omega)]
    generalize hS : zx_up R 4 2 (Int32.ofNat (c 2 + 1)) = S
    have Sq : ∀ q, q ≠ 4 → S q = R q := fun q a => by rw [← hS, zu_other a]
    have S4 : S 4 2 = Int32.ofNat (c 2 + 1) := by rw [← hS, zx_up_same, zu_eq]
    have S4' : ∀ i, i ≠ 2 → S 4 i = ρ 4 i := fun i hi => by rw [← hS, zx_up_same, zu_ne hi, Rq 4 (by decide) (by decide), t1 4 (by decide) (by decide) (by decide) (by decide), x2.1 4 (by decide)]
    clear hS
    have sxS : SX T (a + 2) S r2.2.2 := sx2.of (by rw [Sq 17 (by decide), Rq 17 (by decide) (by decide)]) (by rw [Sq 25 (by decide), Rq 25 (by decide) (by decide)]) (by rw [Sq 26 (by decide), Rq 26 (by decide) (by decide)]) (by rw [Sq 27 (by decide), Rq 27 (by decide) (by decide)]) rfl rfl
    have nsS : NX3 (lUp c 2 (c 2 + 1)) (wsAdd ws 2 (c 2) (T.2.2.1 (a + 1))) S r2.2.2 := by
      refine ns.tell (s := 2) (by decide) lt no S4 (fun s' hs' ne => S4' s' ne) ?_ ?_ (fun j hj => ?_) ?_ (fun j hj => ?_) t8 (fun j hj => ?_)
      · rw [Sq 18 (by decide), R183]; exact t3
      · rw [Sq 20 (by decide), Rq 20 (by decide) (by decide)]; exact t4
      · rw [Sq 20 (by decide), Rq 20 (by decide) (by decide), t5 j hj, x2.1 20 (by decide)]
      · rw [Sq 21 (by decide), Rq 21 (by decide) (by decide)]; exact t6
      · rw [Sq 21 (by decide), Rq 21 (by decide) (by decide), t7 j hj, x2.1 21 (by decide)]
      · rw [t9 j hj, x3 19 (by decide)]
    have nnS : NNX (lUp c 2 (c 2 + 1)) (wsAdd ws 2 (c 2) (T.2.2.1 (a + 1))) 0 (fun _ => 0) S r2.2.2 := nsS.to (by rw [Sq 18 (by decide)]; exact R185)
    refine zp_bind (zp_mono (p_open (d := 0) (s := 0) (m := -1) sm.1 sxS nnS (by rw [Sq 29 (by decide)]; exact R6) (by decide)) fun r6 h6 => zp_some fun {Q} kA kB => ?_)
    unfold zf_M_readThread
    refine zp_bind (zp_mono (sm.nx kk) ?_)
    rintro r23 ⟨s23, f23⟩
    obtain ⟨n23, e17⟩ := nm1 r23 f23
    have e10 : 10 + Int32.ofNat (c 2) = Int32.ofNat (10 + c 2) := zo_plus (i := 10) rfl (by omega)
    rw [e17, e10]
    refine zp_ite (fun _ => zp_bind (zp_mono (m r23 s23 n23) fun u hu => zp_ite (fun _ => zp_ite (fun _ => zp_bind (zp_mono (p_M_call (by omega) (s23.cur k3)) ?_)) fun q => ?_) fun q => absurd hu q)) fun q => absurd (s23.d.name.mpr k3) q
    · rintro μ2 ⟨mc, nmm⟩
      have e17' : μ2 82 17 = Int32.ofNat (c 2) := by rw [mc.1 82 (by decide) (by decide)]; exact e17
      rw [e17', zo_1 (by omega)]
      have sm2 : SM T (a + 1) (zx_up (zx_up μ2 82 39 (Int32.ofNat (c 2))) 82 17 (Int32.ofNat (c 2 + 1))) := s23.of (by rw [zu_other (by decide), zu_other (by decide), mc.1 84 (by decide) (by decide)]) fun i hi => by rw [zx_up_same, zu_ne (by omega), zx_up_same, zu_ne (by omega), mc.1 82 (by decide) (by decide)]
      refine zp_bind (zp_mono (sm2.nx (by rw [k3]; decide)) ?_)
      rintro r7 ⟨s7, f7⟩
      have e39 : r7 82 39 = Int32.ofNat (c 2) := by rw [f7.2 39 (by decide) (by decide) (by decide) (by decide), zx_up_same, zu_ne (by decide), zx_up_same, zu_eq]
      rw [e39, zo_n (by omega)]
      refine zp_chk fun _ => ?_
      generalize hV : (zx_up (zx_up (zx_up (zx_up (zx_up (zx_up r7 90 (c 2) 0) 82 18 0) 82 46 0) 82 40 0) 82 41 (-1)) 82 37 (-1)) = V
      have Vq : ∀ q, q ≠ 82 → q ≠ 90 → V q = r7 q := fun q a b => by rw [← hV, zu_other a, zu_other a, zu_other a, zu_other a, zu_other a, zu_other b]
      have V82 : ∀ i, i ≠ 18 → i ≠ 46 → i ≠ 40 → i ≠ 41 → i ≠ 37 → V 82 i = r7 82 i := fun i a b c d e => by rw [← hV, zx_up_same, zu_ne e, zx_up_same, zu_ne d, zx_up_same, zu_ne c, zx_up_same, zu_ne b, zx_up_same, zu_ne a, zu_other (by decide)]
      have V18 : V 82 18 = 0 := by rw [← hV]; iterate 4 rw [zx_up_same, zu_ne (by decide)]
                                   rw [zx_up_same, zu_eq]
      have V46 : V 82 46 = 0 := by rw [← hV]; iterate 3 rw [zx_up_same, zu_ne (by decide)]
                                   rw [zx_up_same, zu_eq]
      have V37 : V 82 37 = -1 := by rw [← hV, zx_up_same, zu_eq]
      have V40 : V 82 40 = 0 := by rw [← hV]; iterate 2 rw [zx_up_same, zu_ne (by decide)]
                                   rw [zx_up_same, zu_eq]
      have V41 : V 82 41 = -1 := by rw [← hV, zx_up_same, zu_ne (by decide), zx_up_same, zu_eq]
      have V90 : V 90 (c 2) = 0 := by rw [← hV]; iterate 5 rw [zu_other (by decide)]
                                      rw [zx_up_same, zu_eq]
      have V90' : ∀ j, j ≠ c 2 → V 90 j = r7 90 j := fun j hj => by rw [← hV]; iterate 5 rw [zu_other (by decide)]
                                                                    rw [zx_up_same, zu_ne hj]
      clear hV
      have r7q : ∀ q, q ≠ 82 → r7 q = μ2 q := fun q a => by rw [f7.1 q a, zu_other a, zu_other a]
      have r782 : ∀ i, i ≠ 5 → i ≠ 6 → i ≠ 7 → i ≠ 8 → i ≠ 17 → i ≠ 39 → r7 82 i = r23 82 i := fun i a b c d e f => by rw [f7.2 i a b c d, zx_up_same, zu_ne e, zx_up_same, zu_ne f, mc.1 82 (by decide) (by decide)]
      have e717 : r7 82 17 = Int32.ofNat (c 2 + 1) := by rw [f7.2 17 (by decide) (by decide) (by decide) (by decide), zx_up_same, zu_eq]
      have smV : SM T (a + 2) V := s7.of (Vq 84 (by decide) (by decide)) fun i hi => V82 i (by omega) (by omega) (by omega) (by omega) (by omega)
      have nmV : NM3 (lUp c 2 (c 2 + 1)) (wsAdd ws 2 (c 2) (T.2.2.1 (a + 1))) V := n23.tell (s := 2) (by decide) lt mc nmm (by rw [Vq 85 (by decide) (by decide), r7q 85 (by decide)]) (by rw [Vq 86 (by decide) (by decide), r7q 86 (by decide)]) (by rw [V82 17 (by decide) (by decide) (by decide) (by decide) (by decide)]; exact e717) (fun i h1 h2 h3 => by rw [V82 i (by omega) (by omega) (by omega) (by omega) (by omega), r782 i (by omega) (by omega) (by omega) (by omega) (by omega) (by omega)])
      have Mq : ∀ q, q ≠ 82 → q ≠ 85 → q ≠ 86 → q ≠ 90 → V q = μ q := fun q a1 a2 a3 a4 => by rw [Vq q a1 a4, r7q q a1, mc.1 q a2 a3, f23.1 q a1]
      rcases h6 with ⟨xfl, m1⟩ | ⟨_, sx6, nx6, ⟨ρ1, xa, en⟩, g6, m1⟩
      · exact zp_bind (zp_mono (m1 N' V 0 smV V46) fun s hs => p_F_118 hs (kA s _ xfl hs))
      · refine zp_bind (zp_mono (m1 N' V 0 smV V46) ?_)
        rintro s ⟨s1, o⟩
        refine kB s (a + 3) (lUp c 2 (c 2 + 1)) (wsAdd ws 2 (c 2) (T.2.2.1 (a + 1))) (lUp len (c 2) 0) (by omega) ⟨sx6, s1, nx6, (nmV.to V18).opn o, ?_, ?_, ?_⟩
        ·
          obtain ⟨p1, p2, p3, p4, p5, p6, p7⟩ := pk
          have rq : ∀ q, q ≠ 4 → q ≠ 29 → q ≠ 30 → q ≠ 31 → q ≠ 32 → q ≠ 33 → q ≠ 34 → q ≠ 25 → q ≠ 18 → q ≠ 20 → q ≠ 21 → r6.1 q = ρ q := fun q b1 b2 b3 b4 b5 b6 b7 b8 b9 b10 b11 => by rw [en.1 q b1 b2 b3 b4 b5 b6 b7, xa.1 q b8, Sq q b1, Rq q b9 b2, t1 q b9 b10 b11 b8, x2.1 q b8]
          have r5 : r6.1 5 = ρ 5 := rq 5 (by decide) (by decide) (by decide) (by decide) (by decide) (by decide) (by decide) (by decide) (by decide) (by decide) (by decide)
          have r7' : r6.1 7 = ρ 7 := rq 7 (by decide) (by decide) (by decide) (by decide) (by decide) (by decide) (by decide) (by decide) (by decide) (by decide) (by decide)
          have s90 : s 90 = V 90 := o.1 90 (by decide) (by decide) (by decide) (by decide)
          have s92 : s 92 = μ 92 := by rw [o.1 92 (by decide) (by decide) (by decide) (by decide), Mq 92 (by decide) (by decide) (by decide) (by decide)]
          have en7 := en.2.2.2.2.2.2
          rcases en7 with en7 | en7
          · exact absurd en7.1 (by decide)
          have e43 : r6.1 4 3 = ρ 4 3 := by rw [en7.2.2.1, xa.1 4 (by decide)]; exact S4' 3 (by decide)
          have e44 : r6.1 4 4 = ρ 4 4 := by rw [en.2.2.2.2.2.1 4 (by decide), xa.1 4 (by decide)]; exact S4' 4 (by decide)
          have s25 : s 82 25 = μ 82 25 := by rw [o.2.1 25 (by decide) (by decide) (by decide) (by decide) (by decide), V82 25 (by decide) (by decide) (by decide) (by decide) (by decide), r782 25 (by decide) (by decide) (by decide) (by decide) (by decide) (by decide), f23.2 25 (by decide) (by decide) (by decide) (by decide)]
          refine ⟨fun t ht => ?_, fun t h1 h2 => ?_, ?_, by rw [e43, s25]; exact p4, ⟨by decide, en.2.2.2.1⟩, fun _ => ⟨by rw [lUp_at]; omega, ?_, ?_, ?_, o.2.2.1, fun i hi => ?_⟩, fun t s' ht hs => ?_⟩
          · rw [lUp_at] at ht
            rw [r5, s90]
            by_cases q : t = c 2
            · rw [q, lUp_at, V90]; exact ⟨by omega, p2 _ (by omega) lt4, rfl⟩
            · rw [lUp_ne q, V90' t q, r7q 90 (by decide), mc.1 90 (by decide) (by decide), f23.1 90 (by decide)]; exact p1 t (by omega)
          · rw [lUp_at] at h1
            rw [r5]; exact p2 t (by omega) h2
          · rw [e44, lUp_at, sumL, sumL_congr (len := len) (c 2) (fun j hj => lUp_ne (by omega)), lUp_at]; exact p3
          · rw [lUp_at, en.2.2.2.2.1 8 (by decide) (by decide) (by decide), xa.1 29 (by decide), Sq 29 (by decide)]; exact R8
          · rw [lUp_at, o.2.1 39 (by decide) (by decide) (by decide) (by decide) (by decide), V82 39 (by decide) (by decide) (by decide) (by decide) (by decide)]; exact e39
          · rw [en7.2.1, xa.1 29 (by decide), Sq 29 (by decide), R12, o.2.1 41 (by decide) (by decide) (by decide) (by decide) (by decide), V41]
          · have : i = 0 := by omega
            rw [this, en.2.1.1, o.2.2.2.1.1]
          · rw [lUp_at] at ht
            rw [r7', s92]
            by_cases q : t = c 2
            · rw [q, lUp_at] at hs; exact absurd hs (Nat.not_lt_zero _)
            · rw [lUp_ne q] at hs; exact p7 t s' (by omega) hs
        ·
          obtain ⟨nz, wz, SL, h1, h2, h3, h4, h5⟩ := la
          have A : ∀ q, SJ (lUp c 2 (c 2 + 1)) (lUp len (c 2) 0) s q ↔ SJ c len μ q := by
            intro q
            have s92 : s 92 = μ 92 := by rw [o.1 92 (by decide) (by decide) (by decide) (by decide), Mq 92 (by decide) (by decide) (by decide) (by decide)]
            unfold SJ
            rw [s92, lUp_at]
            constructor
            · rintro ⟨⟨t, s', b1, b2, b3⟩, b4⟩
              by_cases q2 : t = c 2
              · rw [q2, lUp_at] at b2; exact absurd b2 (Nat.not_lt_zero _)
              · rw [lUp_ne q2] at b2; exact ⟨⟨t, s', by omega, b2, b3⟩, b4⟩
            · rintro ⟨⟨t, s', b1, b2, b3⟩, b4⟩
              exact ⟨⟨t, s', by omega, by rw [lUp_ne (by omega)]; exact b2, b3⟩, b4⟩
          have y24 : r6.1 24 = ρ 24 := by rw [en.1 24 (by decide) (by decide) (by decide) (by decide) (by decide) (by decide) (by decide), xa.1 24 (by decide), Sq 24 (by decide), Rq 24 (by decide) (by decide), t1 24 (by decide) (by decide) (by decide) (by decide), x2.1 24 (by decide)]
          have y23 : r6.2 23 = τ 23 := by rw [g6 23 (by decide), t10 23 (by decide) (by decide), x3 23 (by decide)]
          have s87 : s 87 = μ 87 := by rw [o.1 87 (by decide) (by decide) (by decide) (by decide), Mq 87 (by decide) (by decide) (by decide) (by decide)]
          have s93 : s 93 = μ 93 := by rw [o.1 93 (by decide) (by decide) (by decide) (by decide), Mq 93 (by decide) (by decide) (by decide) (by decide)]
          have s19 : s 82 19 = μ 82 19 := by rw [o.2.1 19 (by decide) (by decide) (by decide) (by decide) (by decide), V82 19 (by decide) (by decide) (by decide) (by decide) (by decide), r782 19 (by decide) (by decide) (by decide) (by decide) (by decide) (by decide), f23.2 19 (by decide) (by decide) (by decide) (by decide)]
          refine ⟨nz, wz, SL, h1, s19.trans h2, fun l hl => ?_, h4, fun q hq => ?_⟩
          · obtain ⟨b1, b2, b3, b4⟩ := h3 l hl
            refine ⟨b1.of (fun i hi => ?_) ?_, (A _).mpr b2, by rw [y23]; exact b3, by rw [y24, s87]; exact b4⟩
            · rw [o.1 85 (by decide) (by decide) (by decide) (by decide), Vq 85 (by decide) (by decide), r7q 85 (by decide), mc.2.2 _ (by omega), f23.1 85 (by decide)]
            · rw [o.1 86 (by decide) (by decide) (by decide) (by decide), Vq 86 (by decide) (by decide), r7q 86 (by decide), mc.2.1 _ (by omega), f23.1 86 (by decide)]
          · rw [s93, y23]
            rcases h5 q ((A q).mp hq) with ⟨k, k1, k2, k4⟩ | h
            · exact Or.inl ⟨k, by rw [lUp_at]; omega, k2, by rw [wsAdd_ne (fun x => by omega)]; exact k4⟩
            · exact Or.inr h
        ·
          have Xq : ∀ q, 8 ≤ q → q ≤ 12 → S q = ρ q := fun q b1 b2 => by rw [Sq q (by omega), Rq q (by omega) (by omega), t1 q (by omega) (by omega) (by omega) (by omega), x2.1 q (by omega)]
          have e2 : lUp c 2 (c 2 + 1) 2 - 1 = c 2 := by rw [lUp_at]; omega
          have el : lUp len (c 2) 0 (lUp c 2 (c 2 + 1) 2 - 1) = 0 := by rw [e2, lUp_at]
          have S29 : S 29 = R 29 := Sq 29 (by decide)
          refine ⟨WVX.opn (ρ := S) (μ := V) (fun t ht => ?_) (fun z hz => ?_) (fun i hi => absurd hi (Nat.not_lt_zero _)) ⟨fun lo cl => ?_, fun i hi => absurd hi (Nat.not_lt_zero _)⟩ xa en o (by decide) ⟨⟨fun _ => rfl, fun _ => rfl⟩, by decide⟩ (fun q => absurd q (by decide)) (fun q => absurd q (by decide)) ?_, fun _ => ⟨fun _ => 0, [], fun _ => [], ?_⟩⟩
          · rw [lUp_at] at ht
            rw [lUp_ne (by omega)]
            exact (wr t (by omega)).of (fun q hq => Xq q (by omega) (by omega)) (fun q hq => Mq q (by omega) (by omega) (by omega) (by omega))
          · rw [el] at hz; exact absurd hz (Nat.not_lt_zero _)
          · rw [Ch.det cl (show Ch (V 102) [] (V 82 37) from V37), S29, R9, R10]
            exact SET.empty
          · rw [o.2.1 40 (by decide) (by decide) (by decide) (by decide) (by decide), V40]
            rcases en.2.2.2.2.2.2 with e | ⟨_, _, _, e | e⟩
            · exact absurd e.1 (by decide)
            · exact absurd e.1 (by decide)
            · rw [e.2, xa.1 29 (by decide), S29, R11]
          · rw [el]
            exact CHW.opn (d := 0) (own := fun _ => 0) (lo := []) (lw := fun _ => []) ⟨⟨V37, fun k hk => absurd hk List.not_mem_nil⟩, fun i hi => absurd hi (Nat.not_lt_zero _), fun _ _ => rfl, fun i hi => absurd hi (Nat.not_lt_zero _), fun i j _ hj => absurd hj (Nat.not_lt_zero _)⟩ o (by decide) (fun q => absurd q (by decide))
    · exfalso
      have : c 2 = 4 := zo_inj (k := c 2) (j := 4) (by omega) (by omega) (Classical.not_not.mp q)
      omega
