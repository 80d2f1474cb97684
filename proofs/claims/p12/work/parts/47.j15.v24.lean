-- both answer alike
set_option maxRecDepth 2000
theorem RLX.th {T : TS} {a : Nat} {c : Nat → Nat} {ws : Nat → Nat → Int64} {nv : Nat} {wv : Nat → Int64} {len : Nat → Nat} {d : Nat} {ρ : zS} {τ : zT} {μ : zS} (h : RLX T a c ws nv wv len d ρ τ μ) (hd : 0 < d) : c 2 - 1 < 4 ∧ ρ 29 8 = Int32.ofNat (c 2 - 1) ∧ ρ 5 (c 2 - 1) = Int32.ofNat (len (c 2 - 1)) ∧ len (c 2 - 1) ≤ 24 ∧ μ 82 39 = Int32.ofNat (c 2 - 1) ∧ μ 90 (c 2 - 1) = Int32.ofNat (len (c 2 - 1)) := by
  obtain ⟨_, _, ns, _, pk, _⟩ := h
  have c4 := ns.1.c2
  obtain ⟨q1, q2, q3, _⟩ := pk.2.2.2.2.2.1 hd
  obtain ⟨a1, a2, a3⟩ := pk.1 (c 2 - 1) (by omega)
  exact ⟨by omega, q2, a2, a1, q3, a3⟩
theorem SX.em {T : TS} {a t L : Nat} {k x : Int32} {ρ r : zS} {τ : zT} (h : SX T a ρ τ) (e : EM t L k x ρ r) : SX T a r τ := by
  have z : ∀ q, q = 17 ∨ q = 25 ∨ q = 26 ∨ q = 27 → r q = ρ q := fun q hq => e.1 q (by omega) (by omega) (by omega) (by omega) (by omega) (by omega) (by omega) (by omega) (by omega)
  exact h.of (z 17 (by decide)) (z 25 (by decide)) (z 26 (by decide)) (z 27 (by decide)) rfl rfl
theorem NNX.em {c : Nat → Nat} {ws : Nat → Nat → Int64} {nv : Nat} {wv : Nat → Int64} {t L : Nat} {k x : Int32} {ρ r : zS} {τ : zT} (h : NNX c ws nv wv ρ τ) (e : EM t L k x ρ r) : NNX c ws nv wv r τ := by
  have z : ∀ q, q = 18 ∨ q = 20 ∨ q = 21 → r q = ρ q := fun q hq => e.1 q (by omega) (by omega) (by omega) (by omega) (by omega) (by omega) (by omega) (by omega) (by omega)
  exact h.of (fun s hs => e.2.1 s (by omega)) (z 18 (by decide)) (z 20 (by decide)) (z 21 (by decide)) rfl rfl
theorem p_semi {T : TS} {a : Nat} {c : Nat → Nat} {ws : Nat → Nat → Int64} {nv : Nat} {wv : Nat → Int64} {ρ : zS} {τ : zT} {b : Nat → Int32} {n : Int32} (tb : TB b n T.1 T.2.1 T.2.2.1 T.2.2.2.1 T.2.2.2.2) (h : SX T a ρ τ) (ns : NNX c ws nv wv ρ τ) : zp (zf_Reader_expect ρ τ 59) (fun r => ∀ N μ a0 len d, a0 ≤ a → 0 < d → SM T a μ → NSM c ws nv wv μ → PKW c len d ρ μ → LAT c ws len ρ τ μ → VX c len d ρ μ → zp (zf_M_take N μ 59) (fun s => OUT T a0 c ws r.2.1 r.2.2 s)) := by
  refine zp_mono (p_take tb h ns (x := 59) (by decide)) fun r hr N μ a0 len d ha hd sm nm pk la vx => ?_
  rcases hr with ⟨e0, nk, fl, m1⟩ | ⟨e1, ek, sx, nx, xa, g, m1⟩
  · exact zp_mono (m1 N μ sm) fun s hs => Or.inl ⟨_, fl, hs⟩
  · refine zp_mono (m1 N μ sm) ?_
    rintro s ⟨sm', f⟩
    exact Or.inr ⟨a + 1, nv, wv, len, d, by omega, fun q => by omega, sx, sm', nx, nm.nx f, pk.rd xa.xf f.mf, la.rd xa.xf (gRTF g) f.mf, vx.rd xa.xf f.mf⟩
theorem p_X_work {ρ : zS} {x1 x2 x3 x4 : Int32} : zp (zf_Weaver_work ρ x1 x2 x3 x4) (fun r => ∀ q, q ≠ 13 → q ≠ 14 → q ≠ 15 → q ≠ 16 → r q = ρ q) := by
  unfold zf_Weaver_work
  refine zp_bind fun r _ => zp_chk fun _ => zp_chk fun _ => zp_chk fun _ => zp_chk fun _ => zp_some fun q a b c d => ?_
  rw [zu_other d, zu_other c, zu_other b, zu_other a]
theorem SM.k {T : TS} {a : Nat} {μ : zS} (h : SM T a μ) {x : Int32} (hx : 1 ≤ x ∧ x ≤ 15) (e : T.1 a = x + 299) : μ 82 7 = 5 ∧ μ 82 8 = x := (h.d.word hx).mpr e
theorem p_M_stop {N : Nat} {μ : zS} (h : μ 82 7 = 5 ∧ μ 82 8 = 14) : zf_M_statement N μ = (zf_M_addStep N μ 13 (-1)).bind fun r24 => (zf_M_nextIfWell N r24.2).bind fun r25 => (zf_M_take N r25 59).bind fun r26 => some r26 := by
  unfold zf_M_statement
  rw [h.1, h.2]
  rfl
theorem p_M_wait {N : Nat} {μ : zS} (h : μ 82 7 = 5 ∧ μ 82 8 = 8) : zf_M_statement N μ = (zf_M_addStep N μ 7 0).bind fun r49 => (zf_M_nextIfWell N r49.2).bind fun r50 => (zf_M_lockNamed N r50).bind fun r51 => if 0 ≤ ((24 * (μ 82 39)) + r49.1) ∧ ((24 * (μ 82 39)) + r49.1) < 96 then (zf_M_take N (zx_up r51.2 93 ((24 * (μ 82 39)) + r49.1).toNatClampNeg r51.1) 59).bind fun r53 => some (r53) else none := by
  unfold zf_M_statement
  rw [h.1, h.2]
  rfl
theorem p_M_wake {N : Nat} {μ : zS} (h : μ 82 7 = 5 ∧ μ 82 8 = 9) : zf_M_statement N μ = (zf_M_addStep N μ 8 0).bind fun r39 => (zf_M_nextIfWell N r39.2).bind fun r40 => if ¬ (r40 82 9) = 0 then zb_M_statement_364 N r40 (24 * (μ 82 39)) r39.1 else (zf_M_isWord r40 10).bind fun r45 => if r45 = 0 then zb_M_statement_364 N r40 (24 * (μ 82 39)) r39.1 else if 0 ≤ ((24 * (μ 82 39)) + r39.1) ∧ ((24 * (μ 82 39)) + r39.1) < 96 then (zf_M_next N (zx_up r40 92 ((24 * (μ 82 39)) + r39.1).toNatClampNeg 9)).bind fun r48 => zb_M_statement_364 N r48 (24 * (μ 82 39)) r39.1 else none := by
  unfold zf_M_statement
  rw [h.1, h.2]
  rfl
theorem p_M_lock {N : Nat} {μ : zS} (h : μ 82 7 = 5 ∧ μ 82 8 = 3) : zf_M_statement N μ = (zf_M_addStep N μ 3 0).bind fun r64 => (zf_M_nextIfWell N r64.2).bind fun r65 => (zf_M_lockNamed N r65).bind fun r66 => if 0 ≤ ((24 * (μ 82 39)) + r64.1) ∧ ((24 * (μ 82 39)) + r64.1) < 96 then if ¬ (r66.2 82 9) = 0 then zb_M_statement_153 N (zx_up r66.2 93 ((24 * (μ 82 39)) + r64.1).toNatClampNeg r66.1) r64.1 else if 0 ≤ ((24 * (μ 82 39)) + r64.1) ∧ ((24 * (μ 82 39)) + r64.1) < 96 then zb_M_statement_153 N (zx_up (zx_up r66.2 93 ((24 * (μ 82 39)) + r64.1).toNatClampNeg r66.1) 82 40 ((r66.2 82 40) ||| (zJ_shl 1 r66.1))) r64.1 else none else none := by
  unfold zf_M_statement
  rw [h.1, h.2]
  rfl
theorem p_M_if {N : Nat} {μ : zS} (h : μ 82 7 = 5 ∧ μ 82 8 = 5) : zf_M_statement N μ = (zf_M_addStep N μ 5 (-1)).bind fun r59 => (zf_M_nextIfWell N r59.2).bind fun r60 => (zf_M_test N r60 r59.1).bind fun r61 => (zf_M_openBlock N r61 3 r59.1).bind fun r62 => some (r62) := by
  unfold zf_M_statement
  rw [h.1, h.2]
  rfl
theorem p_M_while {N : Nat} {μ : zS} (h : μ 82 7 = 5 ∧ μ 82 8 = 7) : zf_M_statement N μ = (zf_M_addStep N μ 6 (-1)).bind fun r59 => (zf_M_nextIfWell N r59.2).bind fun r60 => (zf_M_test N r60 r59.1).bind fun r61 => (zf_M_openBlock N r61 5 r59.1).bind fun r62 => some (r62) := by
  unfold zf_M_statement
  rw [h.1, h.2]
  rfl
theorem p_M_check {N : Nat} {μ : zS} (h : μ 82 7 = 5 ∧ μ 82 8 = 13) : zf_M_statement N μ = (zf_M_addStep N μ 12 (-1)).bind fun r27 => (zf_M_nextIfWell N r27.2).bind fun r28 => (zf_M_test N r28 r27.1).bind fun r29 => (zf_M_take N r29 59).bind fun r30 => some (r30) := by
  unfold zf_M_statement
  rw [h.1, h.2]
  rfl
theorem p_M_start {N : Nat} {μ : zS} (h : μ 82 7 = 5 ∧ μ 82 8 = 11) : zf_M_statement N μ = zb_M_statement_402 N μ (24 * (μ 82 39)) 10 := by
  unfold zf_M_statement
  rw [h.1, h.2]
  rfl
theorem p_M_join {N : Nat} {μ : zS} (h : μ 82 7 = 5 ∧ μ 82 8 = 12) : zf_M_statement N μ = zb_M_statement_402 N μ (24 * (μ 82 39)) 11 := by
  unfold zf_M_statement
  rw [h.1, h.2]
  rfl
theorem p_M_span {N : Nat} {μ : zS} (h : μ 82 7 = 5 ∧ μ 82 8 = 15) : zf_M_statement N μ = if (μ 82 41) = (-1) then if ¬ (μ 82 25) = 6 then (zf_M_next N μ).bind fun r19 => (zf_M_openBlock N r19 2 0).bind fun r20 => if 0 ≤ (r20 82 25) ∧ (r20 82 25) < 6 then some ((zx_up (zx_up (zx_up r20 82 41 (r20 82 25)) 91 (r20 82 25).toNatClampNeg (r20 82 39)) 82 25 ((r20 82 25) + 1))) else none else (zf_M_fail μ 4).bind fun r22 => some (r22) else (zf_M_cannot μ).bind fun r23 => some (r23) := by
  unfold zf_M_statement
  rw [h.1, h.2]
  rfl
theorem p_M_assign {N : Nat} {μ : zS} (h : μ 82 7 = 2) : zf_M_statement N μ = (zf_M_assign N μ).bind fun r72 => some (r72) := by
  unfold zf_M_statement
  rw [if_neg (fun q => q h)]
theorem s_stop {T : TS} {a N N' : Nat} {c : Nat → Nat} {ws : Nat → Nat → Int64} {nv : Nat} {wv : Nat → Int64} {len : Nat → Nat} {d : Nat} {ρ : zS} {τ : zT} {μ : zS} (rl : RLX T a c ws nv wv len d ρ τ μ) (hd : 0 < d) (hk : T.1 a = 313) : zp (zf_Reader_readStop N ρ τ) (fun r => zp (zf_M_statement N' μ) (fun s => OUT T a c ws r.1 r.2 s)) := by
  obtain ⟨t4, h8, h5, hL, h39, h90⟩ := rl.th hd
  obtain ⟨sx, sm, ns, nm, pk, la, vx⟩ := rl
  have kk : ¬ T.1 a = 0 ∧ ¬ T.1 a = 1 := by rw [hk]; decide
  rw [p_M_stop (sm.k (x := 14) (by decide) hk)]
  unfold zf_Reader_readStop
  refine zp_bind (zp_mono (p_X_room sx h8 t4 h5 hL).2 fun r1 hr => ?_)
  rcases hr with ⟨l, e, fl⟩ | ⟨l, e⟩
  · refine zp_ite (fun _ => zp_some ?_) fun q => absurd e q
    refine p_M_begin sm nm kk h39 t4 h90 hL (fun _ r r' h' => zp_bind (zp_mono (p_F_take h') fun s hs => zp_some (Or.inl ⟨_, fl, hs⟩))) fun l' => by omega
  · subst e
    refine zp_ite (fun q => absurd q (show ¬ (1 : Int32) = 0 by decide)) fun _ => zp_bind (zp_mono (X.tk sm.1 sx ns kk) ?_)
    rintro r3 ⟨x1, x2, x3, x4, x5, x6⟩
    refine zp_bind (zp_mono (p_X_emit (t := c 2 - 1) (L := len (c 2 - 1)) (by rw [x3.1 29 (by decide)]; exact h8) t4 (by rw [x3.1 5 (by decide)]; exact h5) l) fun r4 em => ?_)
    have ce := CEx.of x4 em
    refine zp_bind (zp_mono (p_semi sm.1 (x1.em em) (x2.em em)) fun r5 hr5 => zp_some ?_)
    refine p_M_begin sm nm kk h39 t4 h90 hL (fun l' => by omega) fun _ r r' e1 as nx sm' nm' => zp_bind (zp_mono (hr5 N' r' a _ d (by omega) hd sm' nm' (pk.step hd rfl rfl l ns.1.c2 ce ((MEx.of as).rd nx.mf)) (la.step pk rfl rfl ce ((MEx.of as).rd nx.mf) (x5 23 (by decide) (by decide)) (by decide)) (vx.step pk hd rfl rfl l ce ((MEx.of as).rd nx.mf) (SBJ.no (by decide) em.2.2.2.2.2.1.2.1)).1) fun s hs => zp_some hs)
