-- both answer alike
set_option maxRecDepth 2000
theorem p_X_addField {ρ : zS} {x y : Int32} : zp (zf_Program_addField ρ x y) (fun r => (∀ q, q ≠ 4 → r q = ρ q) ∧ (∀ i, i ≠ 0 → i ≠ 5 → i ≠ 6 → r 4 i = ρ 4 i) ∧ r 4 0 = ρ 4 0 + 1) := by
  unfold zf_Program_addField zb_Program_addField_36
  refine zp_ite (fun _ => zp_some ⟨fun q a => ?_, fun i a b c => ?_, ?_⟩) fun _ => zp_some ⟨fun q a => ?_, fun i a b c => ?_, ?_⟩
  · rw [zu_other a, zu_other a]
  · rw [zx_up_same, zu_ne a, zx_up_same, zu_ne b]
  · rw [zx_up_same, zu_eq, zx_up_same, zu_ne (by decide)]
  · rw [zu_other a, zu_other a, zu_other a]
  · rw [zx_up_same, zu_ne a, zx_up_same, zu_ne c, zx_up_same, zu_ne b]
  · rw [zx_up_same, zu_eq, zx_up_same, zu_ne (by decide), zx_up_same, zu_ne (by decide)]
theorem t_field {T : TS} {a N N' : Nat} {c : Nat → Nat} {ws : Nat → Nat → Int64} {len : Nat → Nat} {ρ : zS} {τ : zT} {μ : zS} {o x : Int32} (rt : RT T a c ws len ρ τ μ) (c0 : c 2 = 0) (kk : ¬ T.1 a = 0 ∧ ¬ T.1 a = 1) : zp (zf_Reader_tellField N ρ τ o) (fun r => zp (zf_M_readField N' μ x) (fun s => OUTT T a r.1 r.2 s)) := by
  obtain ⟨sx, sm, ns, nm, pk, la, wr⟩ := rt
  unfold zf_Reader_tellField
  refine zp_bind (zp_mono (sx.adv sm.1 kk) ?_)
  rintro r1 ⟨x1, x2, x3⟩
  have e40 : r1.1 4 0 = Int32.ofNat (c 0) := by rw [x2.1 4 (by decide)]; exact (ns.1 0 (by decide)).2
  have ns1 : NX3 c ws r1.1 r1.2 := ns.of (fun s _ => by rw [x2.1 4 (by decide)]) (by rw [x2.1 18 (by decide)]) (x2.1 20 (by decide)) (x2.1 21 (by decide)) (x3 19 (by decide))
  rw [e40]
  refine zp_bind (zp_mono (p_tell2 (N' := N') (s := 0) sm.1 x1 ns1 (by decide)) fun r2 h2 => ?_)
  have nm1 : ∀ r23, NX0 μ r23 → NM3 c ws r23 ∧ r23 82 15 = Int32.ofNat (c 0) := fun r23 f => by
    have n' := nm.of (ν := r23) (fun i hi => f.2 i (by omega) (by omega) (by omega) (by omega)) (fun p _ => by rw [f.1 86 (by decide)]) (fun p _ => by rw [f.1 85 (by decide)])
    exact ⟨n', (n' 0 (by decide)).2.1⟩
  rcases h2 with ⟨e, fl, m⟩ | ⟨e, lt, sx2, no, tld, m⟩
  · refine zp_ite (fun q => absurd e q) fun _ => zp_some ?_
    unfold zf_M_readField
    refine zp_bind (zp_mono (sm.nx kk) ?_)
    rintro r23 ⟨s23, f23⟩
    obtain ⟨n23, e15⟩ := nm1 r23 f23
    rw [e15]
    exact zp_bind (zp_mono (m r23 s23 n23) fun r24 h24 => zp_ite (fun q => absurd q h24.1) fun _ => zp_some (Or.inl ⟨_, fl, h24⟩))
  · have c6 := cap_le 0
    have ref : ∀ {Q : zS → Prop}, ((T.1 (a + 2) ≠ 61 → ∀ μ1 μ2 ν, NX0 μ μ1 → MC0 (bs 0 + c 0) μ1 μ2 → Nm μ2 (bs 0 + c 0) (T.2.2.1 (a + 1)) → SM T (a + 2) ν → (∀ q, q ≠ 82 → q ≠ 88 → q ≠ 89 → ν q = μ2 q) → (∀ i, i ≠ 5 → i ≠ 6 → i ≠ 7 → i ≠ 8 → ν 82 i = μ2 82 i) → zp (zb_M_readField_86 N' ν) Q) ∧ (T.1 (a + 2) = 61 → (T.1 (a + 3) ≠ 2 → ∀ s, MFl s (T.2.1 (a + 3)) → Q s) ∧ (T.1 (a + 3) = 2 → ∀ μ1 μ2 ν, NX0 μ μ1 → MC0 (bs 0 + c 0) μ1 μ2 → Nm μ2 (bs 0 + c 0) (T.2.2.1 (a + 1)) → SM T (a + 4) ν → (∀ q, q ≠ 82 → q ≠ 88 → q ≠ 89 → ν q = μ2 q) → (∀ i, i ≠ 5 → i ≠ 6 → i ≠ 7 → i ≠ 8 → ν 82 i = μ2 82 i) → zp (zb_M_readField_86 N' ν) Q))) → zp (zf_M_readField N' μ x) Q := by
      rintro Q ⟨kA, kB⟩
      unfold zf_M_readField
      refine zp_bind (zp_mono (sm.nx kk) ?_)
      rintro r23 ⟨s23, f23⟩
      obtain ⟨n23, e15⟩ := nm1 r23 f23
      rw [e15]
      refine zp_bind (zp_mono (m r23 s23 n23) ?_)
      rintro r24 ⟨s24, μ2, mc, nmm, n2⟩
      refine zp_ite (fun _ => zp_chk fun _ => zp_chk fun _ => ?_) fun q => absurd s24.2.2.2 q
      have sw := (s24.up (q := 88) (i := (r24 82 15).toNatClampNeg) (x := x &&& 1) (by decide)).up (q := 89) (i := (r24 82 15).toNatClampNeg) (x := 0) (by decide)
      have gw : ∀ q, q ≠ 82 → q ≠ 88 → q ≠ 89 → (zx_up (zx_up r24 88 (r24 82 15).toNatClampNeg (x &&& 1)) 89 (r24 82 15).toNatClampNeg 0) q = μ2 q := fun q a1 a2 a3 => by rw [zu_other a3, zu_other a2, n2.1 q a1]
      have g82 : ∀ i, i ≠ 5 → i ≠ 6 → i ≠ 7 → i ≠ 8 → (zx_up (zx_up r24 88 (r24 82 15).toNatClampNeg (x &&& 1)) 89 (r24 82 15).toNatClampNeg 0) 82 i = μ2 82 i := fun i a1 a2 a3 a4 => by rw [zu_other (by decide), zu_other (by decide), n2.2 i a1 a2 a3 a4]
      refine zp_bind (zp_mono (p_M_isSign sw.d (c := 61) (by decide)) fun r6 h6 => zp_ite (fun z => ?_) fun z => ?_)
      · refine kA ?_ r23 μ2 _ f23 mc nmm sw gw g82
        rcases h6 with h | h
        · exact h.2
        · rw [h.1] at z; exact absurd z (by decide)
      · have k61 : T.1 (a + 2) = 61 := by
          rcases h6 with h | h
          · exact absurd h.1 z
          · exact h.2
        refine zp_bind (zp_mono (sw.nx (by rw [k61]; decide)) ?_)
        rintro r9 ⟨s9, f9⟩
        have sw9 := s9.up (q := 89) (i := (r9 82 15).toNatClampNeg) (x := r9 82 8) (by decide)
        refine zp_chk fun _ => zp_ite (fun y => ?_) fun y => ?_
        · have k2 : T.1 (a + 3) = 2 := s9.d.num.mp y
          refine zp_bind (zp_mono (sw9.nx (by rw [k2]; decide)) ?_)
          rintro r12 ⟨s12, f12⟩
          refine (kB k61).2 k2 r23 μ2 r12 f23 mc nmm s12 (fun q a1 a2 a3 => ?_) (fun i a1 a2 a3 a4 => ?_)
          · rw [f12.1 q a1, zu_other a3, f9.1 q a1, gw q a1 a2 a3]
          · rw [f12.2 i a1 a2 a3 a4, zu_other (by decide), f9.2 i a1 a2 a3 a4, g82 i a1 a2 a3 a4]
        · have k2 : T.1 (a + 3) ≠ 2 := fun q => y (s9.d.num.mpr q)
          refine zp_bind (zp_mono (p_M_cannot sw9.2.2.2) fun s hs => zp_some ((kB k61).1 k2 s ?_))
          rw [sw9.p] at hs
          exact hs
    have fin : ∀ (e : Nat) (ρ5 : zS) (τ5 : zT) (v : Int32), a < e → SX T e ρ5 τ5 → (∀ q, q ≠ 25 → ρ5 q = r2.2.1 q) → (∀ q, q ≠ 25 → τ5 q = r2.2.2 q) → zp (zb_Reader_tellField_64 N ρ5 τ5 o v) (fun r => ∀ μ1 μ2 ν, NX0 μ μ1 → MC0 (bs 0 + c 0) μ1 μ2 → Nm μ2 (bs 0 + c 0) (T.2.2.1 (a + 1)) → SM T e ν → (∀ q, q ≠ 82 → q ≠ 88 → q ≠ 89 → ν q = μ2 q) → (∀ i, i ≠ 5 → i ≠ 6 → i ≠ 7 → i ≠ 8 → ν 82 i = μ2 82 i) → zp (zb_M_readField_86 N' ν) (fun s => OUTT T a r.1 r.2 s)) := by
      intro e ρ5 τ5 v ae sx5 fr ft
      have e82 : ∀ μ1 μ2 ν : zS, NX0 μ μ1 → MC0 (bs 0 + c 0) μ1 μ2 → (∀ i, i ≠ 5 → i ≠ 6 → i ≠ 7 → i ≠ 8 → ν 82 i = μ2 82 i) → ν 82 15 = Int32.ofNat (c 0) := fun μ1 μ2 ν f mc g => by rw [g 15 (by decide) (by decide) (by decide) (by decide), mc.1 82 (by decide) (by decide)]; exact (nm1 μ1 f).2
      have smi : ∀ ν : zS, SM T e ν → SM T e (zx_up ν 82 15 (Int32.ofNat (c 0 + 1))) := fun ν s => s.of (zu_other (by decide)) fun i hi => by rw [zx_up_same, zu_ne (by omega)]
      unfold zb_Reader_tellField_64 zb_M_readField_86
      refine zp_bind (zp_mono (p_take0 sm.1 sx5 (x := 59) (by decide)) fun r4 h4 => ?_)
      rcases h4 with ⟨e4, nk, fl⟩ | ⟨e4, ek, sx4, xa, g4⟩
      · refine zp_ite (fun _ => zp_some fun μ1 μ2 ν f1 mc nmm s g g82 => ?_) fun q => absurd e4 q
        rw [e82 μ1 μ2 ν f1 mc g82, zo_1 (by omega)]
        refine zp_bind (zp_mono (p_M_take0 (smi ν s) (by decide)) fun u hu => zp_some (Or.inl ⟨_, fl, ?_⟩))
        rcases hu with hu | hu
        · exact hu.2
        · exact absurd hu.1 nk
      · refine zp_ite (fun q => absurd (q.symm.trans e4) (by decide)) fun _ => zp_bind (zp_mono p_X_addField ?_)
        rintro r7 ⟨y1, y2, y3⟩
        refine zp_some fun μ1 μ2 ν f1 mc nmm s g g82 => ?_
        rw [e82 μ1 μ2 ν f1 mc g82, zo_1 (by omega)]
        refine zp_bind (zp_mono (p_M_take0 (smi ν s) (by decide)) fun u hu => zp_some ?_)
        rcases hu with hu | ⟨_, s5, f5⟩
        · exact absurd ek hu.1
        · refine Or.inr ⟨e + 1, lUp c 0 (c 0 + 1), wsAdd ws 0 (c 0) (T.2.2.1 (a + 1)), len, by omega, by rw [lUp_ne (by decide)]; exact c0, t_end (s := 0) (by decide) ns nm pk la c0 lt no x2 x3 tld ?_ s5 (fun q a1 a2 => ?_) (fun i hi ne => ?_) ?_ (fun q hq => ?_) f1 mc nmm (fun q a1 a2 a3 => ?_) (fun i a1 a2 a3 a4 a5 => ?_) ?_⟩
          · exact SX.of sx4 (ρ' := r7) (y1 17 (by decide)) (y1 25 (by decide)) (y1 26 (by decide)) (y1 27 (by decide)) rfl rfl
          · dsimp only; rw [y1 q a1, xa.1 q a2, fr q a2]
          · dsimp only; rw [y2 i ne (by omega) (by omega), xa.1 4 (by decide), fr 4 (by decide)]
          · dsimp only; rw [y3, xa.1 4 (by decide), fr 4 (by decide)]
          · dsimp only; rw [g4 q hq, ft q hq]
          · rw [f5.1 q a1, zu_other a1, g q a1 a2 a3]
          · rw [f5.2 i a1 a2 a3 a4, zx_up_same, zu_ne a5, g82 i a1 a2 a3 a4]
          · rw [f5.2 (15 + 0) (by decide) (by decide) (by decide) (by decide), zx_up_same, zu_eq]
    refine zp_ite (fun _ => ?_) fun q => absurd (by rw [e]; decide) q
    rw [sx2.k]
    refine zp_ite (fun z => ?_) fun z => ?_
    · refine zp_mono (fin (a + 2) _ _ _ (by omega) sx2 (fun _ _ => rfl) (fun _ _ => rfl)) fun r hr => ref ⟨fun _ μ1 μ2 ν f1 mc nmm s g g82 => hr μ1 μ2 ν f1 mc nmm s g g82, fun q => absurd q z⟩
    · have k61 : T.1 (a + 2) = 61 := Classical.not_not.mp z
      have kk2 : ¬ T.1 (a + 1 + 1) = 0 ∧ ¬ T.1 (a + 1 + 1) = 1 := by rw [k61]; decide
      refine zp_bind (zp_mono (sx2.adv sm.1 kk2) ?_)
      rintro r8 ⟨z1, z2, z3⟩
      refine zp_bind (zp_mono (p_take0 sm.1 z1 (x := 2) (by decide)) fun r9 h9 => ?_)
      rcases h9 with ⟨e9, nk, fl⟩ | ⟨e9, ek, sx9, xa9, g9⟩
      · refine zp_ite (fun q => absurd e9 q) fun _ => zp_some (ref ⟨fun q => absurd k61 q, fun _ => ⟨fun _ s hs => Or.inl ⟨_, fl, hs⟩, fun q => absurd q nk⟩⟩)
      · refine zp_ite (fun _ => ?_) fun q => absurd (by rw [e9]; decide) q
        refine zp_mono (fin (a + 4) _ _ _ (by omega) sx9 (fun q hq => by rw [xa9.1 q hq, z2.1 q hq]) (fun q hq => by rw [g9 q hq, z3 q hq])) fun r hr => ref ⟨fun q => absurd k61 q, fun _ => ⟨fun q => absurd ek q, fun _ μ1 μ2 ν f1 mc nmm s g g82 => hr μ1 μ2 ν f1 mc nmm s g g82⟩⟩
