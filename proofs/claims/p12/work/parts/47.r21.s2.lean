-- both answer alike
set_option maxRecDepth 2000
theorem n_thread {N : Nat} {ρ : zS} {τ : zT} (h : NUM ρ ∧ SLT ρ) : zp (zf_Reader_tellThread N ρ τ) (fun r => NUM r.1 ∧ SLT r.1) := by
  unfold zf_Reader_tellThread
  refine zp_bind (zp_mono y_adv fun r1 h1 => ?_)
  have n1 : NUM r1.1 ∧ SLT r1.1 := ⟨h.1.of (congrFun (h1 4 (by decide)) 0) (congrFun (h1 18 (by decide)) 3) (h1 20 (by decide)) (h1 21 (by decide)), h.2.of (congrFun (h1 4 (by decide)) 0) (h1 5 (by decide)) (h1 7 (by decide)) (h1 8 (by decide))⟩
  have tn : zp (zf_Reader_tellName N r1.1 r1.2 2 (r1.1 4 2) 4) (fun r => NUM r.2.1 ∧ SLT r.2.1) := by
    unfold zf_Reader_tellName
    have F : ∀ k, zp ((zf_Reader_failHere r1.1 k).bind fun r7 => if r7.1 = 0 ∨ r7.1 = 1 then some (r7.1, r7.2, r1.2) else none) (fun r => NUM r.2.1 ∧ SLT r.2.1) := fun k => zp_bind (zp_mono y_fail fun r h => zp_chk fun _ => zp_some ⟨n1.1.of (congrFun (h.2 4 (by decide)) 0) (congrFun (h.2 18 (by decide)) 3) (h.2 20 (by decide)) (h.2 21 (by decide)), n1.2.of (congrFun (h.2 4 (by decide)) 0) (h.2 5 (by decide)) (h.2 7 (by decide)) (h.2 8 (by decide))⟩)
    have T : zp (zf_Names_tell r1.1 r1.2 (r1.2 25 9) 2 (r1.1 4 2)) (fun r => NUM r.1 ∧ SLT r.1) := by
      unfold zf_Names_tell
      refine zp_ite (fun _ => zp_some n1) fun c0 => zp_ite (fun _ => zp_some n1) fun c1 => zp_chk fun _ => zp_chk fun _ => zp_chk fun _ => zp_some ?_
      have k0 : (0 : Int32).toInt = 0 := rfl
      have k1 : (1 : Int32).toInt = 1 := rfl
      have k14 : (14 : Int32).toInt = 14 := rfl
      have a := Int32.le_iff_toInt_le.mp n1.1.1
      have b := Int32.lt_iff_toInt_lt.mp (Int32.not_le.mp c1)
      have n := z_nat n1.1.1
      have s := z_ti_add (a := r1.1 18 3) (b := 1) (by omega) (by omega)
      dsimp only
      refine ⟨⟨?_, fun i hi lt e => ?_⟩, n1.2.of ?_ ?_ ?_ ?_⟩
      · rw [zx_up_same, zu_eq]
        exact Int32.le_iff_toInt_le.mpr (by omega)
      · rw [zx_up_same, zu_eq] at lt
        rw [zu_other (by decide), zu_other (by decide), zx_up_same] at e
        have l := Int32.lt_iff_toInt_lt.mp lt
        rw [zo_ti (by omega), s] at l
        have c : i ≠ (r1.1 18 3).toNatClampNeg := fun c => by
          rw [c, zu_eq] at e
          exact absurd e (by decide)
        rw [zu_ne c] at e
        have k := n1.1.2 i hi (Int32.lt_iff_toInt_lt.mpr (by rw [zo_ti (by omega)]; omega)) e
        have e21 : (zx_up (zx_up (zx_up r1.1 20 (r1.1 18 3).toNatClampNeg 2) 21 (r1.1 18 3).toNatClampNeg (r1.1 4 2)) 18 3 ((r1.1 18 3) + 1)) 21 i = r1.1 21 i := by rw [zu_other (by decide), zx_up_same, zu_ne c, zu_other (by decide)]
        have e40 : (zx_up (zx_up (zx_up r1.1 20 (r1.1 18 3).toNatClampNeg 2) 21 (r1.1 18 3).toNatClampNeg (r1.1 4 2)) 18 3 ((r1.1 18 3) + 1)) 4 0 = r1.1 4 0 := by rw [zu_other (by decide), zu_other (by decide), zu_other (by decide)]
        rw [e21, e40]
        exact k
      · rw [zu_other (by decide), zu_other (by decide), zu_other (by decide)]
      · rw [zu_other (by decide), zu_other (by decide), zu_other (by decide)]
      · rw [zu_other (by decide), zu_other (by decide), zu_other (by decide)]
      · rw [zu_other (by decide), zu_other (by decide), zu_other (by decide)]
    exact zp_ite (fun _ => zp_bind fun r2 _ => zp_ite (fun _ => zp_ite (fun lt => zp_bind (zp_mono T fun r5 h5 => zp_bind (zp_mono y_adv fun r6 h6 => zp_some ⟨h5.1.of (congrFun (h6 4 (by decide)) 0) (congrFun (h6 18 (by decide)) 3) (h6 20 (by decide)) (h6 21 (by decide)), h5.2.of (congrFun (h6 4 (by decide)) 0) (h6 5 (by decide)) (h6 7 (by decide)) (h6 8 (by decide))⟩))) fun _ => F 4) fun _ => F 3) fun _ => F 2
  refine zp_bind (zp_mono tn fun r2 h2 => zp_ite (fun _ => zp_some h2) fun nz => ?_)
  have fl : zp (zf_Names_forgetLocals r2.2.1) (fun r => NUM r ∧ SLT r) := by
    unfold zf_Names_forgetLocals
    exact zp_some ⟨h2.1.of (by rw [zu_other (by decide)]) (by rw [zx_up_same, zu_ne (by decide)]) (zu_other (by decide)) (zu_other (by decide)), h2.2.of (by rw [zu_other (by decide)]) (zu_other (by decide)) (zu_other (by decide)) (zu_other (by decide))⟩
  refine zp_bind (zp_mono fl fun r4 h4 => ?_)
  have bt : zp (zf_Weaver_beginThread r4 (r4 4 2)) (fun r => NUM r ∧ SLT r) := by
    unfold zf_Weaver_beginThread
    have e : ∀ q, q ≠ 29 → (zx_up (zx_up (zx_up (zx_up (zx_up (zx_up (zx_up r4 29 8 (r4 4 2)) 29 6 0) 29 7 (-1)) 29 9 0) 29 10 0) 29 11 0) 29 12 (-1)) q = r4 q := fun q hq => by iterate 7 rw [zu_other hq]
    exact zp_some ⟨h4.1.of (by rw [e 4 (by decide)]) (by rw [e 18 (by decide)]) (e 20 (by decide)) (e 21 (by decide)), h4.2.of (by rw [e 4 (by decide)]) (e 5 (by decide)) (e 7 (by decide)) (e 8 (by decide))⟩
  refine zp_bind (zp_mono bt fun r5 h5 => zp_bind (zp_mono (wv_f_Reader_openBlock (σ0 := zx_up r5 4 2 ((r5 4 2) + 1)) ⟨fun _ _ _ => rfl, h5.1.of ?_ ?_ ?_ ?_, h5.2.of ?_ ?_ ?_ ?_⟩) fun r6 h6 => zp_some h6.2))
  · rw [zx_up_same, zu_ne (by decide)]
  · rw [zu_other (by decide)]
  · rw [zu_other (by decide)]
  · rw [zu_other (by decide)]
  · rw [zx_up_same, zu_ne (by decide)]
  · rw [zu_other (by decide)]
  · rw [zu_other (by decide)]
  · rw [zu_other (by decide)]
theorem s_93 {N : Nat} {ρ : zS} {τ : zT} (h : SLT ρ) : zp (zb_Reader_readText_93 N ρ τ) (fun r => SLT r.1) := by
  unfold zb_Reader_readText_93
  have go : ∀ (n : Nat) (r : zS) (v : Int32), SLT r → zp (zb_Reader_readText_95 N n r τ v) (fun r => SLT r.1) := by
    intro n
    induction n with
    | zero => intro _ _ _; exact zp_none
    | succ n ih =>
      intro r v h
      rw [zb_Reader_readText_95]
      refine zp_ite (fun _ => zp_some h) fun _ => zp_ite (fun _ => zp_some h) fun _ => zp_bind (zp_mono (P := fun r => SLT r) ?_ fun r8 h8 => ih _ _ h8)
      unfold zf_Reader_findThread
      have A : ∀ q : Int32, (r 7 q.toNatClampNeg = 10 ∨ r 7 q.toNatClampNeg = 11) → zp (zb_Reader_findThread_45 N r τ q) (fun r => SLT r) := fun q hq => by
        unfold zb_Reader_findThread_45 zf_Program_setThread
        have ne : ∀ t s : Nat, (r 7 (24 * t + s) = 0 ∨ r 7 (24 * t + s) = 1) → 24 * t + s ≠ q.toNatClampNeg := fun t s k e => by
          rw [e] at k
          rcases hq with h | h <;> rw [h] at k <;> exact absurd k (by decide)
        have P : ∀ x : Int32, SLT (zx_up r 8 q.toNatClampNeg x) := fun x t s ht hs lt k => by
          rw [zu_other (by decide)] at lt k
          rw [zx_up_same, zu_ne (ne t s k), zu_other (by decide)]
          exact h t s ht hs lt k
        refine zp_chk fun _ => zp_bind fun r6 _ => zp_ite (fun _ => zp_bind (zp_ite (fun _ => zp_some (zp_some h)) fun _ => zp_ite (fun _ => zp_some (zp_some h)) fun _ => zp_ite (fun _ => zp_some (zp_some h)) fun _ => zp_ite (fun _ => zp_some (zp_some h)) fun _ => zp_chk fun _ => zp_chk fun _ => zp_ite (fun _ => zp_some (zp_some (P _))) fun _ => zp_chk fun _ => zp_chk fun _ => zp_some (zp_some ?_))) fun _ => zp_chk fun _ => zp_some ?_
        · exact (P r6).of (by rw [zu_other (by decide)]) (zu_other (by decide)) (zu_other (by decide)) (zu_other (by decide))
        · exact h.of (by rw [zu_other (by decide), zu_other (by decide)]) (by rw [zu_other (by decide), zu_other (by decide)]) (by rw [zu_other (by decide), zu_other (by decide)]) (by rw [zu_other (by decide), zu_other (by decide)])
      exact zp_bind fun r1 _ => zp_chk fun _ => zp_ite (fun _ => zp_some h) fun _ => zp_ite (fun k => A r1 (Or.inl k)) fun _ => zp_ite (fun k => A r1 (Or.inr k)) fun _ => zp_some h
  exact go N ρ 0 h
theorem c_42 {N : Nat} : ∀ (n : Nat) (σ : zS) (τ : zT) (v : Int32), (0 < σ 4 2 ∧ σ 4 2 ≤ 4) → (NUM σ ∧ SLT σ) → zp (zb_Reader_readText_42 N n σ τ v) (fun r => r.1 17 6 = 0 → (r.1 4 0 = σ 4 0 ∧ r.1 4 6 = σ 4 6) ∧ SLT r.1) := by
  intro n
  induction n with
  | zero => intro _ _ _ _ _; exact zp_none
  | succ n ih =>
    intro σ τ v h ns
    rw [zb_Reader_readText_42]
    unfold zb_Reader_readText_87
    have E : zp (zb_Reader_readText_93 N σ τ) (fun r => r.1 17 6 = 0 → (r.1 4 0 = σ 4 0 ∧ r.1 4 6 = σ 4 6) ∧ SLT r.1) := zp_mono (zp_and (wf_b_Reader_readText_93 (σ0 := σ) fun _ _ _ => rfl) (s_93 ns.2)) fun r k _ => ⟨⟨k.1 0 (by decide) (by decide), k.1 6 (by decide) (by decide)⟩, k.2⟩
    have go : ∀ (r : zS × zT), r.1 4 0 = σ 4 0 ∧ r.1 4 6 = σ 4 6 → (¬ r.1 17 6 = 0 ∨ ((0 < r.1 4 2 ∧ r.1 4 2 ≤ 4) ∧ (NUM r.1 ∧ SLT r.1))) → zp (zb_Reader_readText_42 N n r.1 r.2 (v + 1)) (fun r => r.1 17 6 = 0 → (r.1 4 0 = σ 4 0 ∧ r.1 4 6 = σ 4 6) ∧ SLT r.1) := fun r e k => by
      rcases k with k | k
      · exact zp_mono (p_XF_42 (p := r.1 17 7) ⟨k, rfl⟩) fun r' h' w => absurd w h'.1
      · exact zp_mono (ih r.1 r.2 (v + 1) k.1 k.2) fun r' h' w => ⟨⟨(h' w).1.1.trans e.1, (h' w).1.2.trans e.2⟩, (h' w).2⟩
    refine zp_ite (fun _ => E) fun _ => zp_ite (fun _ => E) fun _ => zp_ite (fun _ => zp_ite (fun _ => E) fun _ => zp_bind ?_) fun _ => zp_bind (zp_mono (wv_f_Reader_readStatement (σ0 := σ) ⟨fun _ _ _ => rfl, ns⟩) fun r k => go r ⟨k.1 0 (by decide) (by decide), k.1 6 (by decide) (by decide)⟩ (Or.inr ⟨?_, k.2⟩))
    · unfold zf_Reader_readTelling zb_Reader_readTelling_23 zb_Reader_readTelling_61 zb_Reader_readTelling_79
      have nz : ¬ σ 4 2 = 0 := fun w => by rw [w] at h; exact absurd h.1 (by decide)
      refine zp_ite (fun _ => zp_ite (fun _ => zp_ite (fun _ => zp_ite (fun _ => zp_bind (zp_mono (c_fail (by decide)) fun r k => zp_some (go (r.2, τ) ⟨congrFun k.2.2 0, congrFun k.2.2 6⟩ (Or.inl k.2.1)))) fun _ => zp_bind (zp_mono (zp_and c_thread (n_thread ns)) fun r k => zp_some (go r ⟨k.1.1, k.1.2.1⟩ (k.1.2.2.imp id fun w => ⟨?_, k.2⟩)))) fun w => absurd rfl w) fun w => absurd rfl w) fun w => absurd nz w
      rw [w.1]
      have k0 : (0 : Int32).toInt = 0 := rfl
      have k1 : (1 : Int32).toInt = 1 := rfl
      have k4 : (4 : Int32).toInt = 4 := rfl
      have a := Int32.lt_iff_toInt_lt.mp h.1
      have b := Int32.lt_iff_toInt_lt.mp w.2
      have s := z_ti_add (a := σ 4 2) (b := 1) (by omega) (by omega)
      exact ⟨Int32.lt_iff_toInt_lt.mpr (by omega), Int32.le_iff_toInt_le.mpr (by omega)⟩
    · rw [k.1 2 (by decide) (by decide)]
      exact h
theorem p_loopF {T : TS} {N N' : Nat} : ∀ (n : Nat) (ρ : zS) (τ : zT) (tv a : Nat), tv ≤ a → ∀ c ws len μ m, c 2 = 0 → RT T a c ws len ρ τ μ → FLG ρ μ → zp (zb_Reader_readText_42 N n ρ τ (Int32.ofNat tv)) (fun r => zp (zb_M_read_105 N' m μ) (fun s => r.1 17 6 = 0 → FLG r.1 s.2 ∧ SLT r.1)) := by
  intro n
  induction n with
  | zero => intro _ _ _ _ _ _ _ _ _ _ _ _ _; exact zp_none
  | succ n ih =>
    intro ρ τ tv a hv c ws len μ m c0 rt fl
    have sx := rt.1
    have sm := rt.2.1
    have tm : tv ≤ 1500 := by
      have := sx.1.2.2.2.2.2.2.2.2
      have := sm.1.2.2.2.2.1
      omega
    have W : ∀ (x k : Int32), k = x + 299 → 1 ≤ x ∧ x ≤ 15 → zp (zf_M_isWord μ x) (fun r => (r = 0 ∧ T.1 a ≠ k) ∨ (r = 1 ∧ T.1 a = k)) := fun x k e hx => by rw [e]; exact p_M_isWord sm.d hx
    have lim : ¬ (1500 : Int32) < Int32.ofNat tv := fun q => by
      have := (zo_lt (k := 1500) (j := tv) (by omega) (by omega)).mp q
      omega
    have d0 : ρ 29 6 = 0 := rt.2.2.2.2.1.2.2.2.2.1.2
    have e42 : ρ 4 2 = 0 := by rw [(rt.2.2.1.1 2 (by decide)).2, c0]; rfl
    have e40 : ρ 4 0 = Int32.ofNat (c 0) := (rt.2.2.1.1 0 (by decide)).2
    have c06 : c 0 ≤ 6 := Nat.le_trans (rt.2.2.1.1 0 (by decide)).1 (cap_le 0)
    have e15 : μ 82 15 = Int32.ofNat (c 0) := (rt.2.2.2.1 0 (by decide)).2.1
    have ns : NUM ρ ∧ SLT ρ := by
      obtain ⟨p1, p2, p3, _⟩ := rt.2.2.1
      have cc : ∀ s, s < 3 → c s ≤ 6 := fun s hs => Nat.le_trans (p1 s hs).1 (cap_le s)
      have c0' := cc 0 (by decide)
      have c1' := cc 1 (by decide)
      refine ⟨⟨by rw [p2]; exact (zo_le (k := 0) (j := c 0 + c 1 + c 2) (by omega) (by omega)).mpr (Nat.zero_le _), fun i hi lt e => ?_⟩, fun t s ht hs lt => ?_⟩
      · rw [p2] at lt
        obtain ⟨s, k, hs, hk, f1, f2, _⟩ := p3 i ((zo_lt (by omega) (by omega)).mp lt)
        have s0 : s = 0 := zo_inj (by omega) (by omega) (f1.symm.trans e)
        subst s0
        rw [f2, e40]
        exact ⟨(zo_le (k := 0) (j := k) (by omega) (by omega)).mpr (Nat.zero_le _), (zo_lt (by omega) (by omega)).mpr hk⟩
      · rw [rt.2.2.2.2.1.2.1 t (by omega) ht] at lt
        have := (zo_lt (k := s) (j := 0) (by omega) (by omega)).mp lt
        omega
    rw [zb_Reader_readText_42]
    refine zp_ite (fun q => absurd q lim) fun _ => zp_ite (fun q => absurd sx.2 q) fun _ => zp_ite (fun _ => ?_) fun q => absurd (by rw [d0]; decide) q
    rw [sx.k]
    have ex204 : ∀ {Q : Int32 × zS → Prop}, (¬ T.1 a = 300 ∧ ¬ T.1 a = 301 ∧ ¬ T.1 a = 302) → (∀ m', zp (zb_M_read_204 N' m' μ) Q) → zp (zb_M_read_105 N' m μ) Q := by
      intro Q hk h
      cases m with
      | zero => exact zp_none
      | succ m =>
        rw [zb_M_read_105]
        refine zp_ite (fun q => absurd sm.2.2.2 q) fun _ => zp_bind (zp_mono (W 1 300 rfl (by decide)) fun u hu => zp_ite (fun q => ?_) fun _ => zp_bind (zp_mono (W 2 301 rfl (by decide)) fun u hu => zp_ite (fun q => ?_) fun _ => zp_bind (zp_mono (W 3 302 rfl (by decide)) fun u hu => zp_ite (fun _ => h N') fun q => ?_)))
        · rcases hu with hu | hu
          · exact absurd hu.1 q
          · exact absurd hu.2 hk.1
        · rcases hu with hu | hu
          · exact absurd hu.1 q
          · exact absurd hu.2 hk.2.1
        · rcases hu with hu | hu
          · exact absurd hu.1 q
          · exact absurd hu.2 hk.2.2
    have ref : ∀ {r : zS}, (¬ T.1 a = 300 ∧ ¬ T.1 a = 301 ∧ ¬ T.1 a = 302) → (r 17 6 = 0 → (r 4 0 = ρ 4 0 ∧ r 4 6 = ρ 4 6) ∧ SLT r) → zp (zb_M_read_105 N' m μ) (fun s => r 17 6 = 0 → FLG r s.2 ∧ SLT r) := fun {r} hk h => ex204 hk fun m' => zp_mono (wh_b_M_read_204 (σ0 := μ) m' μ ⟨rfl, rfl⟩) fun s hs w => ⟨fl.of (h w).1.1 (h w).1.2 hs.1, (h w).2⟩
    have bad : ∀ {r : zS × zT}, ¬ r.1 17 6 = 0 → zp (zb_Reader_readText_42 N n r.1 r.2 (Int32.ofNat tv + 1)) (fun r' => zp (zb_M_read_105 N' m μ) (fun s => r'.1 17 6 = 0 → FLG r'.1 s.2 ∧ SLT r'.1)) := fun {r} k => zp_mono (p_XF_42 (p := r.1 17 7) ⟨k, rfl⟩) fun r' h' s _ w => absurd w h'.1
    refine zp_ite (fun k0 => ?_) fun k0 => ?_
    · exact zp_mono (zp_and (wf_b_Reader_readText_93 (σ0 := ρ) fun _ _ _ => rfl) (s_93 ns.2)) fun r k => ref (by rw [k0]; decide) fun _ => ⟨⟨k.1 0 (by decide) (by decide), k.1 6 (by decide) (by decide)⟩, k.2⟩
    · refine zp_bind ?_
      unfold zb_Reader_readText_87 zf_Reader_readTelling
      rw [sx.k]
      refine zp_ite (fun q => absurd e42 q) fun _ => ?_
      unfold zb_Reader_readTelling_23
      have nxt : ∀ {r : zS × zT} (m' : Nat) (s : zS), OUTT T a r.1 r.2 s → (r.1 17 6 = 0 → s 82 9 = 0 → FLG r.1 s) → zp (zb_Reader_readText_42 N n r.1 r.2 (Int32.ofNat tv + 1)) (fun r' => zp (zb_M_read_105 N' m' s) (fun s => r'.1 17 6 = 0 → FLG r'.1 s.2 ∧ SLT r'.1)) := by
        intro r m' s o f
        rcases o with ⟨p, x, _⟩ | ⟨a', c', ws', len', lt, c0', rt'⟩
        · exact zp_mono (p_XF_42 x) fun r' h' s _ w => absurd w h'.1
        · rw [zo_1 (by omega)]
          exact ih r.1 r.2 (tv + 1) a' (by omega) c' ws' len' s m' c0' rt' (f rt'.1.2 rt'.2.1.2.2.2)
      have fld : ∀ o : Int32, (T.1 a = 300 ∨ T.1 a = 301) → (o = 0 ↔ ¬ T.1 a = 301) → zp (zb_Reader_readTelling_55 N ρ τ o) (fun r => zp (zb_Reader_readText_42 N n r.1 r.2 (Int32.ofNat tv + 1)) (fun r' => zp (zb_M_read_105 N' m μ) (fun s => r'.1 17 6 = 0 → FLG r'.1 s.2 ∧ SLT r'.1))) := by
        intro o hk ho
        have kk : ¬ T.1 a = 0 ∧ ¬ T.1 a = 1 := by rcases hk with h | h <;> rw [h] <;> decide
        unfold zb_Reader_readTelling_55
        refine zp_bind (fun r er => zp_some fun r' e' => ?_)
        have cf := c_field r er
        have go136 : ∀ m', zp (zb_M_read_136 (zb_M_read_105 N' m') N' μ) (fun s => r'.1 17 6 = 0 → FLG r'.1 s.2 ∧ SLT r'.1) := by
          intro m'
          unfold zb_M_read_136
          refine zp_bind (zp_mono (W 3 302 rfl (by decide)) fun u hu => zp_ite (fun _ => zp_bind (zp_mono (W 2 301 rfl (by decide)) fun r21 h21 => zp_bind (zp_mono (zp_and (t_field (N' := N') (x := r21) rt c0 kk r er) (m_field (N := N') (x := r21))) fun s hs => nxt m' s hs.1 (fun w1 w2 => ?_) r' e'))) fun q => ?_)
          · obtain ⟨l6, f0, f6⟩ := cf w1
            have f8 := hs.2 w2
            rw [e15, zo_n (by omega)] at f8
            have l6' : c 0 < 6 := by rw [e40] at l6; exact (zo_lt (k := c 0) (j := 6) (by omega) (by omega)).mp l6
            refine fl.add e40 l6' f0 f6 f8 ?_
            rw [ho]
            rcases h21 with h | h
            · rw [h.1]; exact ⟨fun _ => by decide, fun _ => h.2⟩
            · rw [h.1]; exact ⟨fun w => absurd h.2 w, fun w => absurd w (by decide)⟩
          · rcases hu with hu | hu
            · exact absurd hu.1 q
            · rcases hk with h | h <;> rw [hu.2] at h <;> exact absurd h (by decide)
        cases m with
        | zero => exact zp_none
        | succ m =>
          rw [zb_M_read_105]
          refine zp_ite (fun q => absurd sm.2.2.2 q) fun _ => zp_bind (zp_mono (W 1 300 rfl (by decide)) fun u hu => zp_ite (fun _ => go136 m) fun q => zp_bind (zp_mono (W 2 301 rfl (by decide)) fun w hw => zp_ite (fun _ => go136 m) fun q2 => ?_))
          exfalso
          rcases hu with hu | hu
          · rcases hw with hw | hw
            · exact hk.elim hu.2 hw.2
            · exact q2 (by rw [hw.1]; decide)
          · exact q (by rw [hu.1]; decide)
      have f42 : (T.1 a = 300 ∨ T.1 a = 301) → zp (zb_Reader_readTelling_42 N ρ τ (T.1 a)) (fun r => zp (zb_Reader_readText_42 N n r.1 r.2 (Int32.ofNat tv + 1)) (fun r' => zp (zb_M_read_105 N' m μ) (fun s => r'.1 17 6 = 0 → FLG r'.1 s.2 ∧ SLT r'.1))) := by
        intro hk
        unfold zb_Reader_readTelling_42
        exact zp_ite (fun n => fld 0 hk ⟨fun _ => n, fun _ => rfl⟩) fun n => fld 1 hk ⟨fun w => absurd w (by decide), fun w => absurd (Classical.not_not.mp n) w⟩
      refine zp_ite (fun q => absurd q (by decide)) fun _ => zp_ite (fun k => f42 (Or.inl k)) fun n0 => zp_ite (fun n1 => ?_) fun n1 => f42 (Or.inr (Classical.not_not.mp n1))
      unfold zb_Reader_readTelling_61 zb_Reader_readTelling_79
      refine zp_ite (fun q => absurd q (by decide)) fun _ => zp_ite (fun n2 => zp_ite (fun n3 => ?_) fun n3 => ?_) fun n2 => ?_
      · exact zp_bind (zp_mono (c_fail (by decide)) fun r k => zp_some (bad (r := (r.2, τ)) k.2.1))
      · refine zp_bind (zp_mono (zp_and c_thread (n_thread ns)) fun r k => zp_some ?_)
        obtain ⟨k, kn⟩ := k
        rcases k.2.2 with b | ⟨b, _⟩
        · exact bad b
        · refine zp_mono (c_42 n r.1 r.2 _ (by rw [b, e42]; decide) kn) fun r' h' => ref ⟨n0, n1, n2⟩ fun w => ⟨⟨(h' w).1.1.trans k.1, (h' w).1.2.trans k.2.1⟩, (h' w).2⟩
      · have k2 : T.1 a = 302 := Classical.not_not.mp n2
        refine zp_bind (zp_mono (zp_and (t_lock (N' := N') rt c0 k2) c_lock) fun r hr => zp_some fun r' e' => ?_)
        cases m with
        | zero => exact zp_none
        | succ m =>
          have go : zp (zb_M_read_136 (zb_M_read_105 N' m) N' μ) (fun s => r'.1 17 6 = 0 → FLG r'.1 s.2 ∧ SLT r'.1) := by
            refine m_136 (Q := fun _ => True) (P := fun s => OUTT T a r.1 r.2 s) (zp_mono (W 3 302 rfl (by decide)) fun u hu => ?_) (fun k hk => hr.1 k hk) fun s hs e8 => nxt m s hs (fun _ _ => fl.of hr.2.1 hr.2.2 e8) r' e'
            rcases hu with hu | hu
            · exact absurd k2 hu.2
            · rw [hu.1]; decide
          rw [zb_M_read_105]
          refine zp_ite (fun q => absurd sm.2.2.2 q) fun _ => zp_bind (zp_mono (W 1 300 rfl (by decide)) fun u hu => zp_ite (fun _ => go) fun q => zp_bind (zp_mono (W 2 301 rfl (by decide)) fun w hw => zp_ite (fun _ => go) fun q2 => zp_bind (zp_mono (W 3 302 rfl (by decide)) fun w hw => zp_ite (fun q3 => ?_) fun _ => go)))
          rcases hw with hw | hw
          · exact absurd k2 hw.2
          · rw [hw.1] at q3; exact absurd q3 (by decide)
