-- both answer alike
set_option maxRecDepth 2000
theorem p_testK {T : TS} {b t L N N' : Nat} {c : Nat → Nat} {ws : Nat → Nat → Int64} {nv : Nat} {wv : Nat → Int64} {ρ ρ1 : zS} {τ1 : zT} {k : Int32} {bb : Nat → Int32} {nn : Int32} (tb : TB bb nn T.1 T.2.1 T.2.2.1 T.2.2.2.1 T.2.2.2.2) (hl : L < 24) (t4 : t < 4) (h8 : ρ 29 8 = Int32.ofNat t) (h5 : ρ 5 t = Int32.ofNat L) (f : RXF ρ ρ1) (sx : SX T b ρ1 τ1) (ns : NNX c ws nv wv ρ1 τ1) : zp (zf_Reader_readTest N ρ1 τ1 k) (fun r => (r.1 = 0 → ¬ r.2.1 17 6 = 0) ∧ (r.1 ≠ 0 → ∃ y2 y3 y4, PUT t L k (-1) y2 y3 y4 ρ r.2.1 ∧ ∀ μ1, SM T b μ1 → NSM c ws nv wv μ1 → μ1 82 39 = Int32.ofNat t → zp (zf_M_test N' μ1 (Int32.ofNat L)) (fun s => (y2 = s 99 (24 * t + L) ∧ y4 = s 100 (24 * t + L) ∧ SGQ y3 (s 101 (24 * t + L)) ∧ VR y2 ∧ VR y4) ∧ ∀ p, 98 ≤ p → p ≤ 101 → ∀ j, j ≠ 24 * t + L → s p j = μ1 p j))) := by
  unfold zf_Reader_readTest
  refine zp_bind (zp_mono (zp_and (p_testr sx ns) (p_testv tb sx ns N')) ?_)
  rintro r1 ⟨vr1, ⟨e, fl, m⟩ | ⟨ne, nv1, wv1, sx1, ns1, f1, g1, m⟩⟩
  · exact zp_ite (fun q => absurd e q) fun _ => zp_some ⟨fun _ => fl.1, fun h => absurd rfl h⟩
  · refine zp_ite (fun _ => ?_) fun q => absurd ne q
    rw [sx1.k]
    have main : (T.1 (b + 1) = 256 ∨ T.1 (b + 1) = 257 ∨ T.1 (b + 1) = 60 ∨ T.1 (b + 1) = 62) → zp (zb_Reader_readTest_52 N r1.2.1 r1.2.2 k r1.1 (T.1 (b + 1))) (fun r => (r.1 = 0 → ¬ r.2.1 17 6 = 0) ∧ (r.1 ≠ 0 → ∃ y2 y3 y4, PUT t L k (-1) y2 y3 y4 ρ r.2.1 ∧ ∀ μ1, SM T b μ1 → NSM c ws nv wv μ1 → μ1 82 39 = Int32.ofNat t → zp (zf_M_test N' μ1 (Int32.ofNat L)) (fun s => (y2 = s 99 (24 * t + L) ∧ y4 = s 100 (24 * t + L) ∧ SGQ y3 (s 101 (24 * t + L)) ∧ VR y2 ∧ VR y4) ∧ ∀ p, 98 ≤ p → p ≤ 101 → ∀ j, j ≠ 24 * t + L → s p j = μ1 p j))) := by
      intro hk
      have kk : ¬ T.1 (b + 1) = 0 ∧ ¬ T.1 (b + 1) = 1 := by rcases hk with e | e | e | e <;> rw [e] <;> decide
      unfold zb_Reader_readTest_52
      refine zp_bind (zp_mono (X.tk tb sx1 ns1 kk) ?_)
      rintro r4 ⟨x1, x2, x3, x4, x5, x6⟩
      refine zp_bind (zp_mono (zp_and (p_testr x1 x2) (p_testv tb x1 x2 N')) ?_)
      rintro r5 ⟨vr5, ⟨e, fl, m5⟩ | ⟨ne5, nv2, wv2, sx2, ns2, f2, g2, m5⟩⟩
      · exact zp_ite (fun q => absurd e q) fun _ => zp_some ⟨fun _ => fl.1, fun h => absurd rfl h⟩
      · have F := ((f.tr f1).tr x4).tr f2
        have e29 : r5.2.1 29 = ρ 29 := F.1 29 (by decide) (by decide) (by decide)
        have e5 : r5.2.1 5 = ρ 5 := F.1 5 (by decide) (by decide) (by decide)
        refine zp_ite (fun _ => zp_bind (zp_mono (p_X_emit (t := t) (L := L) (by rw [e29]; exact h8) t4 (by rw [e5]; exact h5) hl) fun r7 em => ?_)) fun q => absurd ne5 q
        have w8 : r7 29 8 = Int32.ofNat t := by rw [em.2.2.2.2.2.2.2.2.1 8 (by decide) (by decide) (by decide), e29]; exact h8
        refine zp_bind (zp_mono (p_X_workK w8 em.2.2.2.2.2.2.2.1 t4 hl (by rw [em.2.2.2.1]; exact (zo_lt (by omega) (by omega)).mpr (by omega))) fun r8 wk => zp_some ⟨fun h => absurd h (show ¬ (1 : Int32) = 0 by decide), fun _ => ⟨r1.1, T.1 (b + 1), r5.1, PUT.mk' F em wk, fun μ1 sm nm h39 => ?_⟩⟩)
        unfold zf_M_test
        rw [h39, (z24 t4 (by omega)).2.1]
        refine zp_ite (fun _ => zp_bind (zp_mono (m μ1 sm nm) ?_)) fun q => absurd sm.2.2.2 q
        rintro s ⟨s1, s2, s3, s4⟩
        have fin : zp (zb_M_test_98 N' (zx_up (zx_up s.2 99 (24 * t + L) s.1) 101 (24 * t + L) (s.2 82 8)) (24 * Int32.ofNat t + Int32.ofNat L)) (fun s => (r1.1 = s 99 (24 * t + L) ∧ r5.1 = s 100 (24 * t + L) ∧ SGQ (T.1 (b + 1)) (s 101 (24 * t + L)) ∧ VR r1.1 ∧ VR r5.1) ∧ ∀ p, 98 ≤ p → p ≤ 101 → ∀ j, j ≠ 24 * t + L → s p j = μ1 p j) := by
          unfold zb_M_test_98
          rw [(z24 t4 (by omega)).2.1]
          refine zp_bind (zp_mono (M.tk ((s2.up (q := 99) (by decide)).up (q := 101) (by decide)) ((s3.up (q := 99) (by decide)).up (q := 101) (by decide)) kk) ?_)
          rintro ν ⟨n1, n2, n3, n4⟩
          refine zp_bind (zp_mono (m5 ν n1 n2) ?_)
          rintro u ⟨u1, u2, u3, u4⟩
          have e : ∀ p, 98 ≤ p → p ≤ 101 → u.2 p = (zx_up (zx_up s.2 99 (24 * t + L) s.1) 101 (24 * t + L) (s.2 82 8)) p := fun p a b => (u4.1 p (by omega) (by omega) (by omega)).trans (n4.1 p (by omega) (by omega) (by omega))
          refine zp_chk fun _ => zp_some ⟨⟨?_, ?_, ?_, vr1 ne μ1 sm, vr5 ne5 ν n1⟩, fun p a b j hj => ?_⟩
          · rw [zu_other (by decide), e 99 (by omega) (by omega), zu_other (by decide), zx_up_same, zu_eq]; exact s1.symm
          · rw [zx_up_same, zu_eq]; exact u1.symm
          · rw [zu_other (by decide), e 101 (by omega) (by omega), zx_up_same, zu_eq]; exact s2.d.sg hk
          · rw [zx_up_j hj, congrFun (e p a b) j, zx_up_j hj, zx_up_j hj, s4.1 p (by omega) (by omega) (by omega)]
        have td := s2.d.test.mpr hk
        refine zp_chk fun _ => zp_ite (fun _ => zp_chk fun _ => zp_ite (fun q => absurd td.1 q) fun _ => zp_ite (fun _ => fin) fun q1 => zp_ite (fun _ => fin) fun q2 => zp_ite (fun _ => fin) fun q3 => zp_ite (fun _ => fin) fun q4 => ?_) fun q => absurd s2.2.2.2 q
        exfalso
        rcases td.2 with e | e | e | e
        · exact q1 e
        · exact q2 e
        · exact q3 e
        · exact q4 e
    refine zp_ite (fun q => main (Or.inl q)) fun q1 => zp_ite (fun q => main (Or.inr (Or.inl q))) fun q2 => zp_ite (fun q => main (Or.inr (Or.inr (Or.inl q)))) fun q3 => zp_ite (fun q => main (Or.inr (Or.inr (Or.inr q)))) fun q4 => ?_
    exact zp_bind (zp_mono (p_X_fail (by decide)) fun r12 h12 => zp_chk fun _ => zp_some ⟨fun _ => h12.2.1, fun h => absurd h12.1 h⟩)
theorem p_finK {t L N : Nat} {ρ ρ1 : zS} {τ1 : zT} {k x y1 y2 y3 y4 : Int32} (t4 : t < 4) (hl : L < 24) (h8 : ρ 29 8 = Int32.ofNat t) (h5 : ρ 5 t = Int32.ofNat L) (f : RXF ρ ρ1) : zp ((zf_Weaver_emit N ρ1 k x).bind fun r3 => (zf_Weaver_work r3 y1 y2 y3 y4).bind fun r4 => (zf_Reader_expect r4 τ1 59).bind fun r5 => some (r5.2.1, r5.2.2)) (fun r => PUT t L k y1 y2 y3 y4 ρ r.1) := by
  have e29 : ρ1 29 = ρ 29 := f.1 29 (by decide) (by decide) (by decide)
  have e5 : ρ1 5 = ρ 5 := f.1 5 (by decide) (by decide) (by decide)
  refine zp_bind (zp_mono (p_X_emit (t := t) (L := L) (by rw [e29]; exact h8) t4 (by rw [e5]; exact h5) hl) fun r7 em => ?_)
  have w8 : r7 29 8 = Int32.ofNat t := by rw [em.2.2.2.2.2.2.2.2.1 8 (by decide) (by decide) (by decide), e29]; exact h8
  refine zp_bind (zp_mono (p_X_workK w8 em.2.2.2.2.2.2.2.1 t4 hl (by rw [em.2.2.2.1]; exact (zo_lt (by omega) (by omega)).mpr (by omega))) fun r8 wk => zp_bind (zp_mono (wkb_f_Reader_expect (σ0 := r8) F57.rfl') fun r10 h10 => zp_some ((PUT.mk' f em wk).f57 h10)))
theorem p_writeK {T : TS} {e t L N N' : Nat} {c : Nat → Nat} {ws : Nat → Nat → Int64} {nv : Nat} {wv : Nat → Int64} {ρ ρ1 : zS} {τ1 : zT} {μ : zS} {x : Int32} {bb : Nat → Int32} {nn : Int32} (tb : TB bb nn T.1 T.2.1 T.2.2.1 T.2.2.2.1 T.2.2.2.2) (t4 : t < 4) (hl : L < 24) (h8 : ρ 29 8 = Int32.ofNat t) (h5 : ρ 5 t = Int32.ofNat L) (f : RXF ρ ρ1) (sx : SX T e ρ1 τ1) (ns : NNX c ws nv wv ρ1 τ1) (wk : WKA ρ μ) : zp (zf_Reader_readWrite N ρ1 τ1 x) (fun r => ∀ μ1 v1 v4, v1 ≠ -1 → v4.toNatClampNeg = 24 * t + L → SM T e μ1 → NSM c ws nv wv μ1 → (∀ p, 98 ≤ p → p ≤ 101 → ∀ j, j ≠ 24 * t + L → μ1 p j = μ p j) → zp (zb_M_assign_161 N' μ1 v1 v4) (fun s => r.1 17 6 = 0 → WKA r.1 s)) := by
  unfold zf_Reader_readWrite
  refine zp_bind (zp_mono (zp_and (p_setr sx ns) (p_setv tb sx ns N')) ?_)
  rintro r1 ⟨vr1, ⟨e1, fl, m⟩ | ⟨ne, nv1, wv1, sx1, ns1, f1, g1, m⟩⟩
  · exact zp_ite (fun _ => zp_some fun μ1 v1 v4 _ _ _ _ _ s _ w => absurd w fl.1) fun q => absurd e1 q
  · refine zp_ite (fun q => absurd q ne) fun _ => zp_mono (p_finK t4 hl h8 h5 (f.tr f1)) fun r hr μ1 v1 v4 hv ev sm nm fr => ?_
    unfold zb_M_assign_161
    rw [ev]
    refine zp_bind (zp_mono (m μ1 sm nm) ?_)
    rintro s ⟨s1, s2, s3, s4⟩
    refine zp_chk fun _ => zp_ite (fun _ => p_230 (zp_mono (wkc_f_M_take (σ0 := zx_up s.2 99 (24 * t + L) s.1) F98.rfl') fun s' h' _ => wk.put t4 hl h5 hr (fun p a b j hj => ?_) ?_)) fun q => absurd hv q
    · rw [congrFun (h' p a b) j, zx_up_j hj, s4.1 p (by omega) (by omega) (by omega)]
      exact fr p a b j hj
    · refine ⟨fun q => absurd q (by decide), fun _ => ⟨?_, rfl, vr1 ne μ1 sm⟩, fun q => absurd q (by decide), fun q => absurd q (by decide)⟩
      rw [congrFun (h' 99 (by omega) (by omega)) _, zx_up_same, zu_eq]
      exact s1.symm
theorem p_sumK {T : TS} {e t L N N' : Nat} {c : Nat → Nat} {ws : Nat → Nat → Int64} {nv : Nat} {wv : Nat → Int64} {ρ ρ1 : zS} {τ1 : zT} {μ : zS} {x : Int32} {bb : Nat → Int32} {nn : Int32} (tb : TB bb nn T.1 T.2.1 T.2.2.1 T.2.2.2.1 T.2.2.2.2) (t4 : t < 4) (hl : L < 24) (h8 : ρ 29 8 = Int32.ofNat t) (h5 : ρ 5 t = Int32.ofNat L) (f : RXF ρ ρ1) (sx : SX T e ρ1 τ1) (ns : NNX c ws nv wv ρ1 τ1) (wk : WKA ρ μ) : zp (zf_Reader_readSum N ρ1 τ1 x) (fun r => ∀ μ1 v4, v4.toNatClampNeg = 24 * t + L → SM T e μ1 → NSM c ws nv wv μ1 → (∀ p, 98 ≤ p → p ≤ 101 → ∀ j, j ≠ 24 * t + L → μ1 p j = μ p j) → μ1 98 (24 * t + L) = x → μ1 101 (24 * t + L) = 0 → zp (zb_M_assign_161 N' μ1 (-1) v4) (fun s => r.1 17 6 = 0 → WKA r.1 s)) := by
  unfold zf_Reader_readSum
  refine zp_bind (zp_mono (zp_and (p_setr sx ns) (p_setv tb sx ns N')) ?_)
  rintro r1 ⟨vr1, ⟨e1, fl, m⟩ | ⟨ne, nv1, wv1, sx1, ns1, f1, g1, m⟩⟩
  · exact zp_ite (fun q => absurd e1 q) fun _ => zp_some fun μ1 v4 _ _ _ _ _ _ s _ w => absurd w fl.1
  · refine zp_ite (fun _ => ?_) fun q => absurd ne q
    rw [sx1.k]
    have ref : ∀ {Q : zS → Prop} (μ1 : zS) (v4 : Int32), v4.toNatClampNeg = 24 * t + L → SM T e μ1 → NSM c ws nv wv μ1 → (∀ p, 98 ≤ p → p ≤ 101 → ∀ j, j ≠ 24 * t + L → μ1 p j = μ p j) → μ1 98 (24 * t + L) = x → μ1 101 (24 * t + L) = 0 → ((¬ T.1 (e + 1) = 43 ∧ ¬ T.1 (e + 1) = 45) → ∀ μ2 : zS, (∀ p, 98 ≤ p → p ≤ 101 → ∀ j, j ≠ 24 * t + L → μ2 p j = μ p j) → μ2 98 (24 * t + L) = x → μ2 99 (24 * t + L) = r1.1 → μ2 101 (24 * t + L) = 0 → zp (zf_M_take N' μ2 59) Q) → ((T.1 (e + 1) = 43 ∨ T.1 (e + 1) = 45) → ∀ μ2 : zS, SM T (e + 1) μ2 → NSM c ws nv1 wv1 μ2 → (∀ p, 98 ≤ p → p ≤ 101 → ∀ j, j ≠ 24 * t + L → μ2 p j = μ p j) → μ2 98 (24 * t + L) = x → μ2 99 (24 * t + L) = r1.1 → zp (zb_M_assign_203 N' μ2 v4) Q) → zp (zb_M_assign_161 N' μ1 (-1) v4) Q := by
      intro Q μ1 v4 ev sm nm fr e98 e101 k1 k2
      unfold zb_M_assign_161
      rw [ev]
      refine zp_bind (zp_mono (m μ1 sm nm) ?_)
      rintro s ⟨s1, s2, s3, s4⟩
      have S := s2.up (q := 99) (i := 24 * t + L) (x := s.1) (by decide)
      have NM := s3.up (q := 99) (i := 24 * t + L) (x := s.1) (by decide)
      have FR : ∀ p, 98 ≤ p → p ≤ 101 → ∀ j, j ≠ 24 * t + L → (zx_up s.2 99 (24 * t + L) s.1) p j = μ p j := fun p a b j hj => by
        rw [zx_up_j hj, s4.1 p (by omega) (by omega) (by omega)]
        exact fr p a b j hj
      have E98 : (zx_up s.2 99 (24 * t + L) s.1) 98 (24 * t + L) = x := by rw [zu_other (by decide), s4.1 98 (by decide) (by decide) (by decide)]; exact e98
      have E99 : (zx_up s.2 99 (24 * t + L) s.1) 99 (24 * t + L) = r1.1 := by rw [zx_up_same, zu_eq]; exact s1
      have E101 : (zx_up s.2 99 (24 * t + L) s.1) 101 (24 * t + L) = 0 := by rw [zu_other (by decide), s4.1 101 (by decide) (by decide) (by decide)]; exact e101
      refine zp_chk fun _ => zp_ite (fun q => absurd rfl q) fun _ => zp_ite (fun q => absurd s2.2.2.2 q) fun _ => zp_bind (zp_mono (p_M_isSign S.d (c := 43) (by decide)) fun u hu => zp_ite (fun z => ?_) fun z => zp_bind (zp_mono (p_M_isSign S.d (c := 45) (by decide)) fun w hw => zp_ite (fun y => ?_) fun y => ?_))
      · rcases hu with hu | hu
        · exact absurd hu.1 z
        · exact k2 (Or.inl hu.2) _ S NM FR E98 E99
      · rcases hu with hu | hu
        · rcases hw with hw | hw
          · exact p_230 (k1 ⟨hu.2, hw.2⟩ _ FR E98 E99 E101)
          · rw [hw.1] at y; exact absurd y (by decide)
        · exact absurd (by rw [hu.1]; decide) z
      · rcases hw with hw | hw
        · exact absurd hw.1 y
        · exact k2 (Or.inr hw.2) _ S NM FR E98 E99
    have two : (T.1 (e + 1) = 43 ∨ T.1 (e + 1) = 45) → zp (zb_Reader_readSum_40 N r1.2.1 r1.2.2 x r1.1) (fun r => ∀ μ1 v4, v4.toNatClampNeg = 24 * t + L → SM T e μ1 → NSM c ws nv wv μ1 → (∀ p, 98 ≤ p → p ≤ 101 → ∀ j, j ≠ 24 * t + L → μ1 p j = μ p j) → μ1 98 (24 * t + L) = x → μ1 101 (24 * t + L) = 0 → zp (zb_M_assign_161 N' μ1 (-1) v4) (fun s => r.1 17 6 = 0 → WKA r.1 s)) := by
      intro hk
      have kk : ¬ T.1 (e + 1) = 0 ∧ ¬ T.1 (e + 1) = 1 := by rcases hk with q | q <;> rw [q] <;> decide
      have nn' : ¬ (¬ T.1 (e + 1) = 43 ∧ ¬ T.1 (e + 1) = 45) := fun q => hk.elim q.1 q.2
      unfold zb_Reader_readSum_40
      rw [sx1.k]
      refine zp_bind (zp_mono (X.tk tb sx1 ns1 kk) ?_)
      rintro r4 ⟨x1, x2, x3, x4, x5, x6⟩
      refine zp_bind (zp_mono (zp_and (p_setr x1 x2) (p_setv tb x1 x2 N')) ?_)
      unfold zb_Reader_readSum_61
      rintro r5 ⟨vr5, ⟨e5, fl, m5⟩ | ⟨ne5, nv2, wv2, sx2, ns2, f2, g2, m5⟩⟩
      · exact zp_ite (fun _ => zp_some fun μ1 v4 _ _ _ _ _ _ s _ w => absurd w fl.1) fun q => absurd e5 q
      · refine zp_ite (fun q => absurd q ne5) fun _ => zp_mono (p_finK t4 hl h8 h5 (((f.tr f1).tr x4).tr f2)) fun r hr μ1 v4 ev sm nm fr e98 e101 => ref μ1 v4 ev sm nm fr e98 e101 (fun q => absurd q nn') fun _ μ2 sm2 nm2 fr2 e98 e99 => ?_
        unfold zb_M_assign_203
        rw [ev]
        have e8 : μ2 82 8 = T.1 (e + 1) := by
          rcases hk with q | q
          · rw [q]; exact ((sm2.d.sign (c := 43) (by decide)).mpr q).2
          · rw [q]; exact ((sm2.d.sign (c := 45) (by decide)).mpr q).2
        refine zp_chk fun _ => zp_bind (zp_mono (M.tk (sm2.up (q := 101) (i := 24 * t + L) (x := μ2 82 8) (by decide)) (nm2.up (by decide)) kk) ?_)
        rintro ν ⟨n1, n2, n3, n4⟩
        refine zp_bind (zp_mono (m5 ν n1 n2) ?_)
        rintro s ⟨s1, s2, s3, s4⟩
        have E : ∀ p, 98 ≤ p → p ≤ 101 → s.2 p = (zx_up μ2 101 (24 * t + L) (μ2 82 8)) p := fun p a b => (s4.1 p (by omega) (by omega) (by omega)).trans (n4.1 p (by omega) (by omega) (by omega))
        refine zp_chk fun _ => p_230 (zp_mono (wkc_f_M_take (σ0 := zx_up s.2 100 (24 * t + L) s.1) F98.rfl') fun s' h' _ => wk.put t4 hl h5 hr (fun p a b j hj => ?_) ⟨fun q => absurd q (by decide), fun q => absurd q (by decide), fun _ => ⟨?_, ?_, vr1 ne μ1 sm, Or.inr ⟨hk, ?_, ?_, vr5 ne5 ν n1⟩⟩, fun q => absurd q (by decide)⟩)
        · rw [congrFun (h' p a b) j, zx_up_j hj, congrFun (E p a b) j, zx_up_j hj]
          exact fr2 p a b j hj
        · rw [congrFun (h' 98 (by omega) (by omega)) _, zu_other (by decide), congrFun (E 98 (by omega) (by omega)) _, zu_other (by decide)]
          exact e98.symm
        · rw [congrFun (h' 99 (by omega) (by omega)) _, zu_other (by decide), congrFun (E 99 (by omega) (by omega)) _, zu_other (by decide)]
          exact e99.symm
        · rw [congrFun (h' 101 (by omega) (by omega)) _, zu_other (by decide), congrFun (E 101 (by omega) (by omega)) _, zx_up_same, zu_eq]
          exact e8
        · rw [congrFun (h' 100 (by omega) (by omega)) _, zx_up_same, zu_eq]
          exact s1.symm
    refine zp_ite (fun q => two (Or.inl q)) fun q1 => zp_ite (fun q2 => ?_) fun q2 => two (Or.inr (Classical.not_not.mp q2))
    unfold zb_Reader_readSum_61
    refine zp_ite (fun q => absurd q (by decide)) fun _ => zp_mono (p_finK t4 hl h8 h5 (f.tr f1)) fun r hr μ1 v4 ev sm nm fr e98 e101 => ref μ1 v4 ev sm nm fr e98 e101 (fun _ μ2 fr2 e98 e99 e101 => ?_) fun q => absurd q (fun q => q.elim q1 q2)
    refine zp_mono (wkc_f_M_take (σ0 := μ2) F98.rfl') fun s' h' _ => wk.put t4 hl h5 hr (fun p a b j hj => ?_) ⟨fun q => absurd q (by decide), fun q => absurd q (by decide), fun _ => ⟨?_, ?_, vr1 ne μ1 sm, Or.inl ⟨rfl, ?_⟩⟩, fun q => absurd q (by decide)⟩
    · rw [congrFun (h' p a b) j]; exact fr2 p a b j hj
    · rw [congrFun (h' 98 (by omega) (by omega)) _]; exact e98.symm
    · rw [congrFun (h' 99 (by omega) (by omega)) _]; exact e99.symm
    · rw [congrFun (h' 101 (by omega) (by omega)) _]; exact e101
theorem p_asgK {T : TS} {a N N' : Nat} {c : Nat → Nat} {ws : Nat → Nat → Int64} {nv : Nat} {wv : Nat → Int64} {len : Nat → Nat} {d : Nat} {ρ0 : zS} {τ0 : zT} {μ0 : zS} {v1 v2 s0 xx kd : Int32} (pk : PKW c len d ρ0 μ0) (hd : 0 < d) (c4 : c 2 ≤ 4) (sx : SX T a ρ0 τ0) (ns : NNX c ws nv wv ρ0 τ0) (sm : SM T a μ0) (nm : NSM c ws nv wv μ0) (hk : T.1 a = 3) (hs : s0 ≠ -1) (hv : (v2 ≠ 0 ∧ v1 ≠ -1 ∧ kd = 1) ∨ (v2 = 0 ∧ v1 = -1 ∧ kd = 2 ∧ s0 = xx)) (wk : WKA ρ0 μ0) : zp (zb_Reader_readSetting_78 N ρ0 τ0 v2 s0) (fun r => zp (zb_M_assign_56 N' μ0 v1 xx kd) (fun s => r.1 17 6 = 0 → WKA r.1 s)) := by
  have kk : ¬ T.1 a = 0 ∧ ¬ T.1 a = 1 := by rw [hk]; decide
  obtain ⟨q1, h8, h39, _⟩ := pk.2.2.2.2.2.1 hd
  obtain ⟨a1, h5, h90⟩ := pk.1 (c 2 - 1) (by omega)
  have t4 : c 2 - 1 < 4 := by omega
  unfold zb_Reader_readSetting_78
  refine zp_ite (fun q => absurd q hs) fun _ => zp_bind (zp_mono (p_X_room sx h8 t4 h5 a1).1 fun r10 h10 => ?_)
  rcases h10 with ⟨l, e⟩ | ⟨l, e⟩
  · refine zp_ite (fun q => absurd e q) fun _ => ?_
    unfold zb_Reader_readSetting_94
    exact zp_bind (zp_mono (p_X_fail (by decide)) fun r hr => zp_some fun s _ w => absurd w hr.2.1)
  · refine zp_ite (fun _ => ?_) fun q => absurd (by rw [e]; decide) q
    refine zp_bind (zp_mono (X.tk sm.1 sx ns kk) ?_)
    rintro r12 ⟨x1, x2, x3, x4, x5, x6⟩
    refine zp_bind (zp_mono (p_take sm.1 x1 x2 (x := 61) (by decide)) fun r13 h13 => ?_)
    rcases h13 with ⟨e0, nk, fl, m1⟩ | ⟨e1, ek, sx', ns', xa, g', m1⟩
    · exact zp_ite (fun q => absurd e0 q) fun _ => zp_some fun s _ w => absurd w fl.1
    · refine zp_ite (fun _ => ?_) fun q => absurd (by rw [e1]; decide) q
      rw [sx'.k, sx'.w]
      have F := x4.tr xa.xf
      have zq : (24 * Int32.ofNat (c 2 - 1) + Int32.ofNat (len (c 2 - 1))).toNatClampNeg = 24 * (c 2 - 1) + len (c 2 - 1) := (z24 t4 (by omega)).2.1
      have ref : ∀ {Q : zS → Prop}, (∀ r9 : zS, SM T (a + 1 + 1) r9 → NSM c ws nv wv r9 → (∀ p, 98 ≤ p → p ≤ 101 → r9 p = μ0 p) → zp (
          if ¬ v1 = (-1) then
            zb_M_assign_161 N' (zx_up (zx_up r9 98 (24 * (c 2 - 1) + len (c 2 - 1)) xx) 101 (24 * (c 2 - 1) + len (c 2 - 1)) 0) v1 (24 * Int32.ofNat (c 2 - 1) + Int32.ofNat (len (c 2 - 1)))
          else
            if ¬ (r9 82 7) = 2 then
              zb_M_assign_161 N' (zx_up (zx_up r9 98 (24 * (c 2 - 1) + len (c 2 - 1)) xx) 101 (24 * (c 2 - 1) + len (c 2 - 1)) 0) v1 (24 * Int32.ofNat (c 2 - 1) + Int32.ofNat (len (c 2 - 1)))
            else
              (zf_M_fieldHere N' (zx_up (zx_up r9 98 (24 * (c 2 - 1) + len (c 2 - 1)) xx) 101 (24 * (c 2 - 1) + len (c 2 - 1)) 0)).bind fun r28 =>
              if r28 = (-1) then
                zb_M_assign_161 N' (zx_up (zx_up r9 98 (24 * (c 2 - 1) + len (c 2 - 1)) xx) 101 (24 * (c 2 - 1) + len (c 2 - 1)) 0) v1 (24 * Int32.ofNat (c 2 - 1) + Int32.ofNat (len (c 2 - 1)))
              else
                if 0 ≤ (24 * Int32.ofNat (c 2 - 1) + Int32.ofNat (len (c 2 - 1))) ∧ (24 * Int32.ofNat (c 2 - 1) + Int32.ofNat (len (c 2 - 1))) < 96 then
                  (zf_M_fieldHere N' (zx_up (zx_up (zx_up r9 98 (24 * (c 2 - 1) + len (c 2 - 1)) xx) 101 (24 * (c 2 - 1) + len (c 2 - 1)) 0) 92 (24 * (c 2 - 1) + len (c 2 - 1)) 0)).bind fun r31 =>
                  if 0 ≤ (24 * Int32.ofNat (c 2 - 1) + Int32.ofNat (len (c 2 - 1))) ∧ (24 * Int32.ofNat (c 2 - 1) + Int32.ofNat (len (c 2 - 1))) < 96 then
                    (zf_M_next N' (zx_up (zx_up (zx_up (zx_up r9 98 (24 * (c 2 - 1) + len (c 2 - 1)) xx) 101 (24 * (c 2 - 1) + len (c 2 - 1)) 0) 92 (24 * (c 2 - 1) + len (c 2 - 1)) 0) 93 (24 * (c 2 - 1) + len (c 2 - 1)) r31)).bind fun r33 =>
                    zb_M_assign_230 N' r33
                  else none
                else none) Q) → zp (zb_M_assign_56 N' μ0 v1 xx kd) Q := by
        intro Q h
        unfold zb_M_assign_56
        refine zp_bind (zp_mono (p_M_addStep h39 t4 h90 a1 sm.2.2.2) fun s hs' => ?_)
        rcases hs' with ⟨l', _⟩ | ⟨_, e1', as⟩
        · omega
        · have gg : ∀ q, q = 84 ∨ q = 85 ∨ q = 86 → s.2 q = μ0 q := fun q hq => as.1 q (by omega) (by omega) (by omega) (by omega) (by omega) (by omega) (by omega) (by omega) (by omega)
          have sm1 : SM T a s.2 := sm.of (gg 84 (by decide)) fun i hi => as.2.1 i (by omega)
          have nm1 : NSM c ws nv wv s.2 := nm.of (fun i hi => as.2.1 i (by omega)) (fun p _ => by rw [gg 86 (by decide)]) (fun p _ => by rw [gg 85 (by decide)])
          have e39 : s.2 82 39 = Int32.ofNat (c 2 - 1) := by rw [as.2.1 39 (by decide)]; exact h39
          rw [e1', e39, zq]
          refine zp_ite (fun _ => zp_bind (zp_mono (M.tk sm1 nm1 kk) ?_)) fun q => absurd sm1.2.2.2 q
          rintro ν ⟨n1, n2, n3, n4⟩
          refine zp_bind (zp_mono (m1 N' ν n1) ?_)
          rintro r9 ⟨s9, f9⟩
          refine zp_ite (fun _ => zp_chk fun _ => zp_chk fun _ => h r9 s9 (n2.nx f9) fun p a b => ?_) fun q => absurd s9.2.2.2 q
          rw [f9.1 p (by omega), n3.1 p (by omega), as.1 p (by omega) (by omega) (by omega) (by omega) (by omega) (by omega) (by omega) (by omega) (by omega)]
      have FR : ∀ r9 : zS, (∀ p, 98 ≤ p → p ≤ 101 → r9 p = μ0 p) → ∀ p, 98 ≤ p → p ≤ 101 → ∀ j, j ≠ 24 * (c 2 - 1) + len (c 2 - 1) → (zx_up (zx_up r9 98 (24 * (c 2 - 1) + len (c 2 - 1)) xx) 101 (24 * (c 2 - 1) + len (c 2 - 1)) 0) p j = μ0 p j := fun r9 e9 p a b j hj => by
        rw [zx_up_j hj, zx_up_j hj, e9 p a b]
      have E98 : ∀ r9 : zS, (zx_up (zx_up r9 98 (24 * (c 2 - 1) + len (c 2 - 1)) xx) 101 (24 * (c 2 - 1) + len (c 2 - 1)) 0) 98 (24 * (c 2 - 1) + len (c 2 - 1)) = xx := fun r9 => by rw [zu_other (by decide), zx_up_same, zu_eq]
      have E101 : ∀ r9 : zS, (zx_up (zx_up r9 98 (24 * (c 2 - 1) + len (c 2 - 1)) xx) 101 (24 * (c 2 - 1) + len (c 2 - 1)) 0) 101 (24 * (c 2 - 1) + len (c 2 - 1)) = 0 := fun r9 => by rw [zx_up_same, zu_eq]
      have UP : ∀ r9 : zS, SM T (a + 1 + 1) r9 → NSM c ws nv wv r9 → SM T (a + 1 + 1) (zx_up (zx_up r9 98 (24 * (c 2 - 1) + len (c 2 - 1)) xx) 101 (24 * (c 2 - 1) + len (c 2 - 1)) 0) ∧ NSM c ws nv wv (zx_up (zx_up r9 98 (24 * (c 2 - 1) + len (c 2 - 1)) xx) 101 (24 * (c 2 - 1) + len (c 2 - 1)) 0) := fun r9 s9 n9 => ⟨(s9.up (by decide)).up (by decide), (n9.up (by decide)).up (by decide)⟩
      rcases hv with ⟨hv2, hv1, hkd⟩ | ⟨hv2, hv1, hkd, hx⟩
      ·
        subst hkd
        have wr : ∀ s, zp (zb_Reader_readSetting_148 N r13.2.1 r13.2.2 v2 s0 s) (fun r => zp (zb_M_assign_56 N' μ0 v1 xx 1) (fun s => r.1 17 6 = 0 → WKA r.1 s)) := by
          intro s
          unfold zb_Reader_readSetting_148
          exact zp_ite (fun q => absurd q hv2) fun _ => zp_bind (zp_mono (p_writeK (N' := N') sm.1 t4 l h8 h5 F sx' ns' wk) fun r hr => zp_some (ref fun r9 s9 n9 e9 => zp_ite (fun _ => hr _ v1 _ hv1 zq (UP r9 s9 n9).1 (UP r9 s9 n9).2 (FR r9 e9)) fun q => absurd hv1 q))
        exact zp_ite (fun _ => wr _) fun _ => zp_bind fun r _ => wr _
      · subst hkd hv1 hv2 hx
        have sumc : ∀ {P : Prop}, P → (P → ∀ r9 : zS, SM T (a + 1 + 1) r9 → NSM c ws nv wv r9 → (T.1 (a + 2) = 3 → zp (zf_M_fieldHere N' r9) (fun r => r = -1))) → zp ((zf_Reader_readSum N r13.2.1 r13.2.2 s0).bind fun r18 => some (r18.1, r18.2)) (fun r => zp (zb_M_assign_56 N' μ0 (-1) s0 2) (fun s => r.1 17 6 = 0 → WKA r.1 s)) := by
          intro P hP hno
          refine zp_bind (zp_mono (p_sumK (N' := N') sm.1 t4 l h8 h5 F sx' ns' wk) fun r hr => zp_some (ref fun r9 s9 n9 e9 => ?_))
          obtain ⟨b1, b2⟩ := UP r9 s9 n9
          have go := hr _ _ zq b1 b2 (FR r9 e9) (E98 r9) (E101 r9)
          exact zp_ite (fun q => absurd rfl q) fun _ => zp_ite (fun _ => go) fun z => zp_bind (zp_mono (hno hP _ b1 b2 (s9.d.name.mp (Classical.not_not.mp z))) fun r28 h28 => zp_ite (fun _ => go) fun q => absurd h28 q)
        refine zp_ite (fun z => ?_) fun z => ?_
        · unfold zb_Reader_readSetting_148
          exact zp_ite (fun _ => zp_ite (fun _ => sumc z fun z _ _ _ q => absurd q z) fun q => absurd rfl q) fun q => absurd rfl q
        · have z3 : T.1 (a + 1 + 1) = 3 := Classical.not_not.mp z
          obtain ⟨f2, l2, t2, w2, lq⟩ := LQ.ex ns'.1 ns'.2.1 (T.2.2.1 (a + 1 + 1))
          have lx := LX.mk ns'.1 ns'.2.1 lq
          refine zp_bind (zp_mono (lx.2.1 N) fun r21 h21 => ?_)
          subst h21
          unfold zb_Reader_readSetting_148
          refine zp_ite (fun _ => zp_ite (fun y => sumc y fun y r9 s9 n9 _ => ?_) fun y => ?_) fun q => absurd rfl q
          · refine zp_mono ((LM.mk n9 (s9.cur z3) lq).1 N') fun r hr => ?_
            rw [hr]; exact y
          · unfold zf_Reader_readRead
            have kk3 : ¬ T.1 (a + 1 + 1) = 0 ∧ ¬ T.1 (a + 1 + 1) = 1 := by rw [z3]; decide
            refine zp_bind (zp_bind (zp_mono (X.tk sm.1 sx' ns' kk3) ?_))
            rintro r1 ⟨y1, y2, y3, y4, y5, y6⟩
            refine zp_mono (p_finK t4 l h8 h5 (F.tr y4)) fun r hr => zp_some (ref fun r9 s9 n9 e9 => ?_)
            obtain ⟨b1, b2⟩ := UP r9 s9 n9
            refine zp_ite (fun q => absurd rfl q) fun _ => zp_ite (fun q => absurd (s9.d.name.mpr z3) q) fun _ => zp_bind (zp_mono ((LM.mk b2 (b1.cur z3) lq).1 N') fun r28 h28 => zp_ite (fun q => absurd (h28.symm.trans q) y) fun _ => zp_chk fun _ => zp_bind fun r31 _ => zp_chk fun _ => zp_bind (zp_mono (wkc_f_M_next (σ0 := zx_up (zx_up r9 98 (24 * (c 2 - 1) + len (c 2 - 1)) s0) 101 (24 * (c 2 - 1) + len (c 2 - 1)) 0) (F98.up (by decide) (F98.up (by decide) F98.rfl'))) fun ν hν => p_230 (zp_mono (wkc_f_M_take hν) fun s' h' _ => wk.put t4 l h5 hr (fun p a b j hj => ?_) ⟨fun _ => ?_, fun q => absurd q (by decide), fun q => absurd q (by decide), fun q => absurd q (by decide)⟩)))
            · rw [congrFun (h' p a b) j]; exact FR r9 e9 p a b j hj
            · rw [congrFun (h' 98 (by omega) (by omega)) _]; exact (E98 r9).symm
