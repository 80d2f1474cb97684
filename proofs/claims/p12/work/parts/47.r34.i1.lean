-- both answer alike
set_option maxRecDepth 2000
theorem ushr_bits {v : Int32} {n : Nat} (hn : n < 24) : (zJ_ushr v (Int32.ofNat n)).toBitVec = v.toBitVec >>> n := by
  unfold zJ_ushr
  show (v.toUInt32 >>> ((Int32.ofNat n).toUInt32 &&& Int32.toUInt32 31)).toBitVec = _
  rw [UInt32.toBitVec_shiftRight]
  have b := bit_sh ⟨n, hn⟩
  dsimp only at b
  show v.toBitVec >>> (((Int32.ofNat n).toUInt32 &&& Int32.toUInt32 31).toBitVec % 32).toNat = v.toBitVec >>> n
  rw [b]
theorem seven_bits : ∀ i : Fin 32, (7 : Int32).toBitVec.getLsbD i.val = decide (i.val < 3) := by decide +kernel
theorem get3 {v : Int32} {n i : Nat} (hn : n < 24) : ((zJ_ushr v (Int32.ofNat n)) &&& 7).toBitVec.getLsbD i = (v.toBitVec.getLsbD (n + i) && decide (i < 3)) := by
  rw [Int32.toBitVec_and, BitVec.getLsbD_and, ushr_bits hn, BitVec.getLsbD_ushiftRight]
  by_cases c : i < 32
  · rw [seven_bits ⟨i, c⟩]
  · rw [BitVec.getLsbD_of_ge (7 : Int32).toBitVec i (by omega), decide_eq_false (by omega)]
theorem shl_get {x : Int32} {n i : Nat} (hn : n < 24) (hi : i < 32) : (zJ_shl x (Int32.ofNat n)).toBitVec.getLsbD i = (decide (n ≤ i) && x.toBitVec.getLsbD (i - n)) := by
  unfold zJ_shl
  rw [Int32.toBitVec_shiftLeft]
  have b : ∀ k : Fin 24, ((Int32.ofNat k.val &&& 31).toBitVec.smod 32).toNat = k.val := by decide +kernel
  have b' := b ⟨n, hn⟩
  dsimp only at b'
  rw [BitVec.shiftLeft_eq', b', BitVec.getLsbD_shiftLeft]
  by_cases c : n ≤ i
  · have c' : ¬ i < n := by omega
    simp [hi, c, c']
  · have c' : i < n := by omega
    simp [hi, c, c']
theorem low3 : ∀ x : Fin 8, ∀ i : Fin 32, 3 ≤ i.val → (Int32.ofNat x.val).toBitVec.getLsbD i.val = false := by decide +kernel
theorem low3' {x : Int32} (h : 0 ≤ x ∧ x ≤ 7) {i : Nat} (hi : 3 ≤ i) : x.toBitVec.getLsbD i = false := by
  have xt : Int32.ofNat x.toNatClampNeg = x := zo_mk h.1
  have n := z_nat h.1
  have b := Int32.le_iff_toInt_le.mp h.2
  have k7 : (7 : Int32).toInt = 7 := rfl
  by_cases c : i < 32
  · have l := low3 ⟨x.toNatClampNeg, by omega⟩ ⟨i, c⟩ hi
    dsimp only at l
    rw [xt] at l
    exact l
  · exact BitVec.getLsbD_of_ge _ _ (by omega)
theorem i32_ext {a b : Int32} (h : ∀ i, i < 32 → a.toBitVec.getLsbD i = b.toBitVec.getLsbD i) : a = b := by
  apply Int32.toBitVec_inj.mp
  apply BitVec.eq_of_getLsbD_eq
  intro i hi
  exact h i hi
def FLV (ρ μ : zS) : Prop := (∀ f, f < 6 → Int32.ofNat f < ρ 4 0 → ((zJ_ushr (ρ 4 5) (Int32.ofNat (3 * f))) &&& 7 = μ 89 f ∧ 0 ≤ μ 89 f ∧ μ 89 f ≤ 7)) ∧ (∀ k : Nat, ρ 4 0 = Int32.ofNat k → k ≤ 6 → ∀ i, 3 * k ≤ i → (ρ 4 5).toBitVec.getLsbD i = false)
theorem FLV.of {ρ μ r s : zS} (h : FLV ρ μ) (e0 : r 4 0 = ρ 4 0) (e5 : r 4 5 = ρ 4 5) (e9 : s 89 = μ 89) : FLV r s := by
  unfold FLV at *
  rw [e0, e5, e9]
  exact h
theorem FLV.add {ρ μ r s : zS} {k : Nat} {v : Int32} (h : FLV ρ μ) (e0 : ρ 4 0 = Int32.ofNat k) (hk : k < 6) (hv : 0 ≤ v ∧ v ≤ 7) (f0 : r 4 0 = ρ 4 0 + 1) (f5 : r 4 5 = (ρ 4 5) ||| (zJ_shl v (3 * (ρ 4 0)))) (f9 : s 89 = zu (μ 89) k v) : FLV r s := by
  have e1 : r 4 0 = Int32.ofNat (k + 1) := by rw [f0, e0, zo_1 (by omega)]
  have e3 : 3 * Int32.ofNat k = Int32.ofNat (3 * k) := by
    have b : ∀ k : Fin 6, 3 * Int32.ofNat k.val = Int32.ofNat (3 * k.val) := by decide +kernel
    exact b ⟨k, hk⟩
  obtain ⟨h1, h2⟩ := h
  have z := h2 k e0 (by omega)
  have get : ∀ i, i < 32 → (r 4 5).toBitVec.getLsbD i = ((ρ 4 5).toBitVec.getLsbD i || (decide (3 * k ≤ i) && v.toBitVec.getLsbD (i - 3 * k))) := fun i hi => by
    rw [f5, e0, e3, Int32.toBitVec_or, BitVec.getLsbD_or, shl_get (by omega) hi]
  refine ⟨fun f hf lt => ?_, fun k' e' _ i hi => ?_⟩
  · rw [e1] at lt
    have lt := (zo_lt (by omega) (by omega)).mp lt
    rw [f9]
    by_cases c : f = k
    · rw [c, zu_eq]
      refine ⟨i32_ext fun i hi => ?_, hv⟩
      rw [get3 (by omega)]
      by_cases d : i < 3
      · rw [get (3 * k + i) (by omega), z (3 * k + i) (by omega), decide_eq_true (show 3 * k ≤ 3 * k + i by omega), show 3 * k + i - 3 * k = i by omega, decide_eq_true d]
        simp
      · rw [decide_eq_false d, Bool.and_false, low3' hv (by omega)]
    · rw [zu_ne c]
      obtain ⟨o1, o2⟩ := h1 f hf (by rw [e0]; exact (zo_lt (by omega) (by omega)).mpr (by omega))
      refine ⟨?_, o2⟩
      rw [← o1]
      refine i32_ext fun i hi => ?_
      rw [get3 (by omega), get3 (by omega)]
      by_cases d : i < 3
      · rw [get (3 * f + i) (by omega), decide_eq_false (show ¬ 3 * k ≤ 3 * f + i by omega), Bool.false_and, Bool.or_false]
      · rw [decide_eq_false d, Bool.and_false, Bool.and_false]
  · have ek : k' = k + 1 := zo_inj (by omega) (by omega) (e'.symm.trans e1)
    by_cases c : i < 32
    · rw [get i c, z i (by omega), low3' hv (by omega), Bool.and_false, Bool.or_false]
    · exact BitVec.getLsbD_of_ge _ _ (by omega)
theorem c_addFieldV {ρ : zS} {x y : Int32} : zp (zf_Program_addField ρ x y) (fun r => r 4 5 = (ρ 4 5) ||| (zJ_shl x (3 * (ρ 4 0)))) := by
  unfold zf_Program_addField zb_Program_addField_36
  refine zp_ite (fun c => zp_some ?_) fun c => zp_some ?_
  · rw [zx_up_same, zu_ne (by decide), zx_up_same, zu_eq]
  · rw [zx_up_same, zu_ne (by decide), zx_up_same, zu_ne (by decide), zx_up_same, zu_eq]
theorem c_lockV {N : Nat} {ρ : zS} {τ : zT} : zp (zf_Reader_tellLock N ρ τ) (fun r => r.1 4 5 = ρ 4 5) := by
  unfold zf_Reader_tellLock
  refine zp_bind (zp_mono y_adv fun r1 h1 => zp_bind (zp_mono c_tellName fun r2 h2 => ?_))
  have e2 : r2.2.1 4 = ρ 4 := h2.2.2.trans (h1 4 (by decide))
  refine zp_ite (fun _ => zp_some (congrFun e2 5)) fun _ => zp_bind (zp_mono c_expect fun r4 h4 => ?_)
  have e4 := h4.2.trans e2
  refine zp_ite (fun _ => zp_some (congrFun e4 5)) fun _ => zp_some ?_
  dsimp only
  rw [zx_up_same, zu_ne (by decide), e4]
theorem c_threadV {N : Nat} {ρ : zS} {τ : zT} : zp (zf_Reader_tellThread N ρ τ) (fun r => r.1 4 5 = ρ 4 5) := by
  unfold zf_Reader_tellThread
  refine zp_bind (zp_mono y_adv fun r1 h1 => zp_bind (zp_mono c_tellName fun r2 h2 => ?_))
  have e2 : r2.2.1 4 = ρ 4 := h2.2.2.trans (h1 4 (by decide))
  refine zp_ite (fun z => zp_some (congrFun e2 5)) fun nz => ?_
  have fl : zp (zf_Names_forgetLocals r2.2.1) (fun r => r 4 = ρ 4) := by
    unfold zf_Names_forgetLocals
    exact zp_some ((zu_other (by decide)).trans e2)
  refine zp_bind (zp_mono fl fun r4 h4 => ?_)
  have bt : zp (zf_Weaver_beginThread r4 (r4 4 2)) (fun r => r 4 = ρ 4) := by
    unfold zf_Weaver_beginThread
    refine zp_some ?_
    iterate 7 rw [zu_other (by decide)]
    exact h4
  refine zp_bind (zp_mono bt fun r5 h5 => zp_bind (zp_mono (wf_f_Reader_openBlock (σ0 := zx_up r5 4 2 ((r5 4 2) + 1)) fun _ _ _ => rfl) fun r6 h6 => zp_some ?_))
  dsimp only
  rw [h6 5 (by decide) (by decide), zx_up_same, zu_ne (by decide), h5]
theorem c_42V {N : Nat} : ∀ (n : Nat) (σ : zS) (τ : zT) (v : Int32), (0 < σ 4 2 ∧ σ 4 2 ≤ 4) → zp (zb_Reader_readText_42 N n σ τ v) (fun r => r.1 17 6 = 0 → r.1 4 0 = σ 4 0 ∧ r.1 4 5 = σ 4 5) := by
  intro n
  induction n with
  | zero => intro _ _ _ _; exact zp_none
  | succ n ih =>
    intro σ τ v h
    rw [zb_Reader_readText_42]
    unfold zb_Reader_readText_87
    have E : zp (zb_Reader_readText_93 N σ τ) (fun r => r.1 17 6 = 0 → r.1 4 0 = σ 4 0 ∧ r.1 4 5 = σ 4 5) := zp_mono (wf_b_Reader_readText_93 (σ0 := σ) fun _ _ _ => rfl) fun r k _ => ⟨k 0 (by decide) (by decide), k 5 (by decide) (by decide)⟩
    have go : ∀ (r : zS × zT), r.1 4 0 = σ 4 0 ∧ r.1 4 5 = σ 4 5 → (¬ r.1 17 6 = 0 ∨ (0 < r.1 4 2 ∧ r.1 4 2 ≤ 4)) → zp (zb_Reader_readText_42 N n r.1 r.2 (v + 1)) (fun r => r.1 17 6 = 0 → r.1 4 0 = σ 4 0 ∧ r.1 4 5 = σ 4 5) := fun r e k => by
      rcases k with k | k
      · exact zp_mono (p_XF_42 (p := r.1 17 7) ⟨k, rfl⟩) fun r' h' w => absurd w h'.1
      · exact zp_mono (ih r.1 r.2 (v + 1) k) fun r' h' w => ⟨(h' w).1.trans e.1, (h' w).2.trans e.2⟩
    refine zp_ite (fun _ => E) fun _ => zp_ite (fun _ => E) fun _ => zp_ite (fun _ => zp_ite (fun _ => E) fun _ => zp_bind ?_) fun _ => zp_bind (zp_mono (wf_f_Reader_readStatement (σ0 := σ) fun _ _ _ => rfl) fun r k => go r ⟨k 0 (by decide) (by decide), k 5 (by decide) (by decide)⟩ (Or.inr ?_))
    · unfold zf_Reader_readTelling zb_Reader_readTelling_23 zb_Reader_readTelling_61 zb_Reader_readTelling_79
      have nz : ¬ σ 4 2 = 0 := fun w => by rw [w] at h; exact absurd h.1 (by decide)
      refine zp_ite (fun _ => zp_ite (fun _ => zp_ite (fun _ => zp_ite (fun _ => zp_bind (zp_mono (c_fail (by decide)) fun r k => zp_some (go (r.2, τ) ⟨congrFun k.2.2 0, congrFun k.2.2 5⟩ (Or.inl k.2.1)))) fun _ => zp_bind (zp_mono (zp_and c_thread c_threadV) fun r k => zp_some (go r ⟨k.1.1, k.2⟩ (k.1.2.2.imp id fun w => ?_)))) fun w => absurd rfl w) fun w => absurd rfl w) fun w => absurd nz w
      rw [w.1]
      have k0 : (0 : Int32).toInt = 0 := rfl
      have k1 : (1 : Int32).toInt = 1 := rfl
      have k4 : (4 : Int32).toInt = 4 := rfl
      have a := Int32.lt_iff_toInt_lt.mp h.1
      have b := Int32.lt_iff_toInt_lt.mp w.2
      have s := z_ti_add (a := σ 4 2) (b := 1) (by omega) (by omega)
      exact ⟨Int32.lt_iff_toInt_lt.mpr (by omega), Int32.le_iff_toInt_le.mpr (by omega)⟩
    · rw [k 2 (by decide) (by decide)]
      exact h
theorem zu_zu {f : Nat → Int32} {k : Nat} {x y : Int32} : zu (zu f k x) k y = zu f k y := by
  funext j
  by_cases c : j = k
  · rw [c, zu_eq, zu_eq]
  · rw [zu_ne c, zu_ne c, zu_ne c]
theorem t_fieldV {T : TS} {a N N' : Nat} {c : Nat → Nat} {ws : Nat → Nat → Int64} {len : Nat → Nat} {ρ : zS} {τ : zT} {μ : zS} {o x : Int32} (rt : RT T a c ws len ρ τ μ) (kk : ¬ T.1 a = 0 ∧ ¬ T.1 a = 1) : zp (zf_Reader_tellField N ρ τ o) (fun r => zp (zf_M_readField N' μ x) (fun s => r.1 17 6 = 0 → s 82 9 = 0 → ∃ v : Int32, (0 ≤ v ∧ v ≤ 7) ∧ r.1 4 5 = (ρ 4 5) ||| (zJ_shl v (3 * (ρ 4 0))) ∧ s 89 = zu (μ 89) (c 0) v)) := by
  obtain ⟨sx, sm, ns, nm, pk, la, wr⟩ := rt
  unfold zf_Reader_tellField
  refine zp_bind (zp_mono (sx.adv sm.1 kk) ?_)
  rintro r1 ⟨x1, x2, x3⟩
  have e4 : r1.1 4 = ρ 4 := x2.1 4 (by decide)
  have e40 : r1.1 4 0 = Int32.ofNat (c 0) := by rw [e4]; exact (ns.1 0 (by decide)).2
  have ns1 : NX3 c ws r1.1 r1.2 := ns.of (fun s _ => by rw [x2.1 4 (by decide)]) (by rw [x2.1 18 (by decide)]) (x2.1 20 (by decide)) (x2.1 21 (by decide)) (x3 19 (by decide))
  rw [e40]
  refine zp_bind (zp_mono (zp_and (p_tell2 (N' := N') (s := 0) sm.1 x1 ns1 (by decide)) c_tellName) fun r2 h2' => ?_)
  obtain ⟨h2, ct⟩ := h2'
  have e42 : r2.2.1 4 = ρ 4 := ct.2.2.trans e4
  have nm1 : ∀ r23, NX0 μ r23 → NM3 c ws r23 ∧ r23 82 15 = Int32.ofNat (c 0) := fun r23 f => by
    have n' := nm.of (ν := r23) (fun i hi => f.2 i (by omega) (by omega) (by omega) (by omega)) (fun p _ => by rw [f.1 86 (by decide)]) (fun p _ => by rw [f.1 85 (by decide)])
    exact ⟨n', (n' 0 (by decide)).2.1⟩
  rcases h2 with ⟨e, fl, m⟩ | ⟨e, lt, sx2, no, tld, m⟩
  · exact zp_ite (fun q => absurd e q) fun _ => zp_some fun s _ w => absurd w fl.1
  · have c6 := cap_le 0
    have c06 : c 0 ≤ 6 := by omega
    have v0 : (0 : Int32) ≤ 0 ∧ (0 : Int32) ≤ 7 := by decide
    have e86 : ∀ {Q : zS → Prop} (ν : zS), (∀ s : zS, s 89 = ν 89 → Q s) → zp (zb_M_readField_86 N' ν) Q := fun {Q} ν h => by
      unfold zb_M_readField_86
      refine zp_bind (zp_mono (wj_f_M_take (σ0 := zx_up ν 82 15 ((ν 82 15) + 1)) ⟨rfl, rfl⟩) fun r8 h8 => zp_some (h r8 ?_))
      rw [h8.1, zu_other (by decide)]
    have ref : ∀ {Q : zS → Prop}, ((T.1 (a + 2) ≠ 61 → ∀ s : zS, s 89 = zu (μ 89) (c 0) 0 → Q s) ∧ (T.1 (a + 2) = 61 → (T.1 (a + 3) ≠ 2 → ∀ s : zS, ¬ s 82 9 = 0 → Q s) ∧ (T.1 (a + 3) = 2 → ∀ s : zS, (0 ≤ (T.2.2.1 (a + 3)).toInt32 ∧ (T.2.2.1 (a + 3)).toInt32 ≤ 7) → s 89 = zu (μ 89) (c 0) (T.2.2.1 (a + 3)).toInt32 → Q s))) → zp (zf_M_readField N' μ x) Q := by
      rintro Q ⟨kA, kB⟩
      unfold zf_M_readField
      refine zp_bind (zp_mono (sm.nx kk) ?_)
      rintro r23 ⟨s23, f23⟩
      obtain ⟨n23, e15⟩ := nm1 r23 f23
      rw [e15]
      refine zp_bind (zp_mono (m r23 s23 n23) ?_)
      rintro r24 ⟨s24, μ2, mc, nmm, n2⟩
      have e89 : r24 89 = μ 89 := by rw [n2.1 89 (by decide), mc.1 89 (by decide) (by decide), f23.1 89 (by decide)]
      have e15' : r24 82 15 = Int32.ofNat (c 0) := by rw [n2.2 15 (by decide) (by decide) (by decide) (by decide), mc.1 82 (by decide) (by decide)]; exact e15
      rw [e15', zo_n (m := c 0) (by omega)]
      refine zp_ite (fun _ => zp_chk fun _ => zp_chk fun _ => ?_) fun q => absurd s24.2.2.2 q
      have sw := (s24.up (q := 88) (i := c 0) (x := x &&& 1) (by decide)).up (q := 89) (i := c 0) (x := 0) (by decide)
      have w89 : (zx_up (zx_up r24 88 (c 0) (x &&& 1)) 89 (c 0) 0) 89 = zu (μ 89) (c 0) 0 := by rw [zx_up_same, zu_other (by decide), e89]
      have w15 : (zx_up (zx_up r24 88 (c 0) (x &&& 1)) 89 (c 0) 0) 82 15 = Int32.ofNat (c 0) := by rw [zu_other (by decide), zu_other (by decide)]; exact e15'
      generalize (zx_up (zx_up r24 88 (c 0) (x &&& 1)) 89 (c 0) 0) = S at *
      refine zp_bind (zp_mono (p_M_isSign sw.d (c := 61) (by decide)) fun r6 h6 => zp_ite (fun z => ?_) fun z => ?_)
      · refine e86 S fun s hs => kA ?_ s (hs.trans w89)
        rcases h6 with h | h
        · exact h.2
        · rw [h.1] at z; exact absurd z (by decide)
      · have k61 : T.1 (a + 2) = 61 := by
          rcases h6 with h | h
          · exact absurd h.1 z
          · exact h.2
        refine zp_bind (zp_mono (sw.nx (by rw [k61]; decide)) ?_)
        rintro r9 ⟨s9, f9⟩
        have f89 : r9 89 = zu (μ 89) (c 0) 0 := (f9.1 89 (by decide)).trans w89
        have f15 : r9 82 15 = Int32.ofNat (c 0) := (f9.2 15 (by decide) (by decide) (by decide) (by decide)).trans w15
        rw [f15, zo_n (m := c 0) (by omega)]
        have sw9 := s9.up (q := 89) (i := c 0) (x := r9 82 8) (by decide)
        refine zp_chk fun _ => zp_ite (fun y => ?_) fun y => ?_
        · have k2 : T.1 (a + 3) = 2 := s9.d.num.mp y
          have val := s9.d.val k2
          refine zp_bind (zp_mono (sw9.nx (by rw [k2]; decide)) ?_)
          rintro r12 ⟨s12, f12⟩
          refine e86 r12 fun s hs => (kB k61).2 k2 s (by rw [val.1]; exact val.2) ?_
          rw [hs, f12.1 89 (by decide), zx_up_same, f89, zu_zu, val.1]
        · have k2 : T.1 (a + 3) ≠ 2 := fun q => y (s9.d.num.mpr q)
          refine zp_bind (zp_mono (p_M_cannot sw9.2.2.2) fun s hs => zp_some ((kB k61).1 k2 s hs.1))
    have fin : ∀ (ρ5 : zS) (τ5 : zT) (v : Int32), ρ5 4 = ρ 4 → zp (zb_Reader_tellField_64 N ρ5 τ5 o v) (fun r => r.1 17 6 = 0 → r.1 4 5 = (ρ 4 5) ||| (zJ_shl v (3 * (ρ 4 0)))) := fun ρ5 τ5 v e5 => by
      unfold zb_Reader_tellField_64
      refine zp_bind (zp_mono c_expect fun r5 h5 => zp_ite (fun z => zp_some fun w => absurd w (h5.1 z)) fun _ => zp_bind (zp_mono c_addFieldV fun r7 h7 => zp_some fun _ => ?_))
      rw [h5.2.trans e5] at h7
      exact h7
    refine zp_ite (fun _ => ?_) fun q => absurd (by rw [e]; decide) q
    rw [sx2.k]
    refine zp_ite (fun z => ?_) fun z => ?_
    · exact zp_mono (fin _ _ 0 e42) fun r hr => ref ⟨fun _ s hs w _ => ⟨0, v0, hr w, hs⟩, fun q => absurd q z⟩
    · have k61 : T.1 (a + 2) = 61 := Classical.not_not.mp z
      have kk2 : ¬ T.1 (a + 1 + 1) = 0 ∧ ¬ T.1 (a + 1 + 1) = 1 := by rw [k61]; decide
      refine zp_bind (zp_mono (sx2.adv sm.1 kk2) ?_)
      rintro r8 ⟨z1, z2, z3⟩
      have w8 : r8.2 25 9 = T.2.2.1 (a + 3) := z1.w
      rw [w8]
      refine zp_bind (zp_mono (zp_and (p_take0 sm.1 z1 (x := 2) (by decide)) c_expect) fun r9 h9' => ?_)
      obtain ⟨h9, ce⟩ := h9'
      rcases h9 with ⟨e9, nk, fl⟩ | ⟨e9, ek, sx9, xa9, g9⟩
      · exact zp_ite (fun q => absurd e9 q) fun _ => zp_some fun s _ w => absurd w fl.1
      · refine zp_ite (fun _ => ?_) fun q => absurd (by rw [e9]; decide) q
        refine zp_mono (fin _ _ _ (ce.2.trans ((z2.1 4 (by decide)).trans e42))) fun r hr => ref ⟨fun q => absurd k61 q, fun _ => ⟨fun q => absurd ek q, fun _ s hv hs w _ => ⟨_, hv, hr w, hs⟩⟩⟩
