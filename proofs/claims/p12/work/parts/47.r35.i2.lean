-- both answer alike
set_option maxRecDepth 2000
theorem m_136V {N : Nat} {μ : zS} {k : zS → Option (Int32 × zS)} {Q R : Int32 × zS → Prop} {P : zS → Prop} (h3 : zp (zf_M_isWord μ 3) (fun u => ¬ u = 0)) (h : ∀ {Q : Int32 × zS → Prop} (k : zS → Option (Int32 × zS)), (∀ s, P s → zp (k s) Q) → zp (zb_M_read_136 k N μ) Q) (kk : ∀ s, P s → s 89 = μ 89 → zp (k s) R) : zp (zb_M_read_136 k N μ) R := by
  have g : zp (zb_M_read_136 (fun s => some ((0 : Int32), s)) N μ) (fun p => P p.2 ∧ p.2 89 = μ 89) := by
    refine zp_and (h _ fun s hs => zp_some hs) ?_
    unfold zb_M_read_136 zb_M_read_180
    have T : ∀ (r : zS) (x : Int32), F9 μ r → zp ((zf_M_take N (zx_up r 82 16 x) 59).bind fun r26 => some ((0 : Int32), r26)) (fun p => p.2 89 = μ 89) := fun r x hr => zp_bind (zp_mono (wj_f_M_take (σ0 := μ) (F9.u2 (by decide) hr)) fun r26 h26 => zp_some h26.1)
    exact zp_bind (zp_mono h3 fun u hu => zp_ite (fun z => absurd z hu) fun _ => zp_bind (zp_mono (wj_f_M_next (σ0 := μ) ⟨rfl, rfl⟩) fun r23 h23 => zp_bind (zp_mono (wj_f_M_readTold (σ0 := μ) h23) fun r24 h24 => zp_ite (fun _ => T _ _ h24) fun _ => T _ _ h24)))
  have b : zb_M_read_136 k N μ = (zb_M_read_136 (fun s => some ((0 : Int32), s)) N μ).bind fun p => k p.2 := by
    unfold zb_M_read_136 zb_M_read_180
    cases zf_M_isWord μ 3 with
    | none => rfl
    | some u =>
      show (if u = 0 then _ else _) = Option.bind (if u = 0 then _ else _) _
      by_cases c : u = 0
      · rw [if_pos c, if_pos c]
        cases zf_M_isWord μ 2 with
        | none => rfl
        | some w =>
          show Option.bind (zf_M_readField N μ w) _ = Option.bind (Option.bind (zf_M_readField N μ w) _) _
          cases zf_M_readField N μ w with
          | none => rfl
          | some z => rfl
      · rw [if_neg c, if_neg c]
        cases zf_M_next N μ with
        | none => rfl
        | some y =>
          show Option.bind (zf_M_readTold N y 6 (y 82 16) 4) _ = Option.bind (Option.bind (zf_M_readTold N y 6 (y 82 16) 4) _) _
          cases zf_M_readTold N y 6 (y 82 16) 4 with
          | none => rfl
          | some z =>
            show (if z 82 9 = 0 then _ else _) = Option.bind (if z 82 9 = 0 then _ else _) _
            by_cases d : z 82 9 = 0
            · rw [if_pos d, if_pos d]
              cases zf_M_take N (zx_up z 82 16 ((z 82 16) + 1)) 59 with
              | none => rfl
              | some v => rfl
            · rw [if_neg d, if_neg d]
              cases zf_M_take N (zx_up z 82 16 (z 82 16)) 59 with
              | none => rfl
              | some v => rfl
  rw [b]
  exact zp_bind (zp_mono g fun p hp => kk p.2 hp.1 hp.2)
theorem p_loopV {T : TS} {N N' : Nat} : ∀ (n : Nat) (ρ : zS) (τ : zT) (tv a : Nat), tv ≤ a → ∀ c ws len μ m, c 2 = 0 → RT T a c ws len ρ τ μ → FLV ρ μ → zp (zb_Reader_readText_42 N n ρ τ (Int32.ofNat tv)) (fun r => zp (zb_M_read_105 N' m μ) (fun s => r.1 17 6 = 0 → FLV r.1 s.2)) := by
  intro n
  induction n with
  | zero => intro _ _ _ _ _ _ _ _ _ _ _ _ _; exact zp_none
  | succ n ih =>
    intro ρ τ tv a hv c ws len μ m c0 rt fl
    have sx := rt.1
    have sm := rt.2.1
    have tm : tv ≤ 1500 := by
      have := sx.1.2.2.2.2.2.2.2.2
      have := sm.1.2.2.2.2.1
      omega
    have W : ∀ (x k : Int32), k = x + 299 → 1 ≤ x ∧ x ≤ 15 → zp (zf_M_isWord μ x) (fun r => (r = 0 ∧ T.1 a ≠ k) ∨ (r = 1 ∧ T.1 a = k)) := fun x k e hx => by rw [e]; exact p_M_isWord sm.d hx
    have lim : ¬ (1500 : Int32) < Int32.ofNat tv := fun q => by
      have := (zo_lt (k := 1500) (j := tv) (by omega) (by omega)).mp q
      omega
    have d0 : ρ 29 6 = 0 := rt.2.2.2.2.1.2.2.2.2.1.2
    have e42 : ρ 4 2 = 0 := by rw [(rt.2.2.1.1 2 (by decide)).2, c0]; rfl
    have e40 : ρ 4 0 = Int32.ofNat (c 0) := (rt.2.2.1.1 0 (by decide)).2
    have c06 : c 0 ≤ 6 := Nat.le_trans (rt.2.2.1.1 0 (by decide)).1 (cap_le 0)
    have e15 : μ 82 15 = Int32.ofNat (c 0) := (rt.2.2.2.1 0 (by decide)).2.1
    rw [zb_Reader_readText_42]
    refine zp_ite (fun q => absurd q lim) fun _ => zp_ite (fun q => absurd sx.2 q) fun _ => zp_ite (fun _ => ?_) fun q => absurd (by rw [d0]; decide) q
    rw [sx.k]
    have ex204 : ∀ {Q : Int32 × zS → Prop}, (¬ T.1 a = 300 ∧ ¬ T.1 a = 301 ∧ ¬ T.1 a = 302) → (∀ m', zp (zb_M_read_204 N' m' μ) Q) → zp (zb_M_read_105 N' m μ) Q := by
      intro Q hk h
      cases m with
      | zero => exact zp_none
      | succ m =>
        rw [zb_M_read_105]
        refine zp_ite (fun q => absurd sm.2.2.2 q) fun _ => zp_bind (zp_mono (W 1 300 rfl (by decide)) fun u hu => zp_ite (fun q => ?_) fun _ => zp_bind (zp_mono (W 2 301 rfl (by decide)) fun u hu => zp_ite (fun q => ?_) fun _ => zp_bind (zp_mono (W 3 302 rfl (by decide)) fun u hu => zp_ite (fun _ => h N') fun q => ?_)))
        · rcases hu with hu | hu
          · exact absurd hu.1 q
          · exact absurd hu.2 hk.1
        · rcases hu with hu | hu
          · exact absurd hu.1 q
          · exact absurd hu.2 hk.2.1
        · rcases hu with hu | hu
          · exact absurd hu.1 q
          · exact absurd hu.2 hk.2.2
    have ref : ∀ {r : zS}, (¬ T.1 a = 300 ∧ ¬ T.1 a = 301 ∧ ¬ T.1 a = 302) → (r 17 6 = 0 → (r 4 0 = ρ 4 0 ∧ r 4 5 = ρ 4 5)) → zp (zb_M_read_105 N' m μ) (fun s => r 17 6 = 0 → FLV r s.2) := fun {r} hk h => ex204 hk fun m' => zp_mono (wj_b_M_read_204 (σ0 := μ) m' μ ⟨rfl, rfl⟩) fun s hs w => fl.of (h w).1 (h w).2 hs.1
    have bad : ∀ {r : zS × zT}, ¬ r.1 17 6 = 0 → zp (zb_Reader_readText_42 N n r.1 r.2 (Int32.ofNat tv + 1)) (fun r' => zp (zb_M_read_105 N' m μ) (fun s => r'.1 17 6 = 0 → FLV r'.1 s.2)) := fun {r} k => zp_mono (p_XF_42 (p := r.1 17 7) ⟨k, rfl⟩) fun r' h' s _ w => absurd w h'.1
    refine zp_ite (fun k0 => ?_) fun k0 => ?_
    · exact zp_mono (wf_b_Reader_readText_93 (σ0 := ρ) fun _ _ _ => rfl) fun r k => ref (by rw [k0]; decide) fun _ => ⟨k 0 (by decide) (by decide), k 5 (by decide) (by decide)⟩
    · refine zp_bind ?_
      unfold zb_Reader_readText_87 zf_Reader_readTelling
      rw [sx.k]
      refine zp_ite (fun q => absurd e42 q) fun _ => ?_
      unfold zb_Reader_readTelling_23
      have nxt : ∀ {r : zS × zT} (m' : Nat) (s : zS), OUTT T a r.1 r.2 s → (r.1 17 6 = 0 → s 82 9 = 0 → FLV r.1 s) → zp (zb_Reader_readText_42 N n r.1 r.2 (Int32.ofNat tv + 1)) (fun r' => zp (zb_M_read_105 N' m' s) (fun s => r'.1 17 6 = 0 → FLV r'.1 s.2)) := by
        intro r m' s o f
        rcases o with ⟨p, x, _⟩ | ⟨a', c', ws', len', lt, c0', rt'⟩
        · exact zp_mono (p_XF_42 x) fun r' h' s _ w => absurd w h'.1
        · rw [zo_1 (by omega)]
          exact ih r.1 r.2 (tv + 1) a' (by omega) c' ws' len' s m' c0' rt' (f rt'.1.2 rt'.2.1.2.2.2)
      have fld : ∀ o : Int32, (T.1 a = 300 ∨ T.1 a = 301) → (o = 0 ↔ ¬ T.1 a = 301) → zp (zb_Reader_readTelling_55 N ρ τ o) (fun r => zp (zb_Reader_readText_42 N n r.1 r.2 (Int32.ofNat tv + 1)) (fun r' => zp (zb_M_read_105 N' m μ) (fun s => r'.1 17 6 = 0 → FLV r'.1 s.2))) := by
        intro o hk ho
        have kk : ¬ T.1 a = 0 ∧ ¬ T.1 a = 1 := by rcases hk with h | h <;> rw [h] <;> decide
        unfold zb_Reader_readTelling_55
        refine zp_bind (fun r er => zp_some fun r' e' => ?_)
        have cf := c_field r er
        have go136 : ∀ m', zp (zb_M_read_136 (zb_M_read_105 N' m') N' μ) (fun s => r'.1 17 6 = 0 → FLV r'.1 s.2) := by
          intro m'
          unfold zb_M_read_136
          refine zp_bind (zp_mono (W 3 302 rfl (by decide)) fun u hu => zp_ite (fun _ => zp_bind (zp_mono (W 2 301 rfl (by decide)) fun r21 h21 => zp_bind (zp_mono (zp_and (t_field (N' := N') (x := r21) rt c0 kk r er) (t_fieldV (N' := N') (x := r21) rt kk r er)) fun s hs => nxt m' s hs.1 (fun w1 w2 => ?_) r' e'))) fun q => ?_)
          · obtain ⟨l6, f0, _⟩ := cf w1
            obtain ⟨v, hv, f5, f9⟩ := hs.2 w1 w2
            have l6' : c 0 < 6 := by rw [e40] at l6; exact (zo_lt (k := c 0) (j := 6) (by omega) (by omega)).mp l6
            exact fl.add e40 l6' hv f0 f5 f9
          · rcases hu with hu | hu
            · exact absurd hu.1 q
            · rcases hk with h | h <;> rw [hu.2] at h <;> exact absurd h (by decide)
        cases m with
        | zero => exact zp_none
        | succ m =>
          rw [zb_M_read_105]
          refine zp_ite (fun q => absurd sm.2.2.2 q) fun _ => zp_bind (zp_mono (W 1 300 rfl (by decide)) fun u hu => zp_ite (fun _ => go136 m) fun q => zp_bind (zp_mono (W 2 301 rfl (by decide)) fun w hw => zp_ite (fun _ => go136 m) fun q2 => ?_))
          exfalso
          rcases hu with hu | hu
          · rcases hw with hw | hw
            · exact hk.elim hu.2 hw.2
            · exact q2 (by rw [hw.1]; decide)
          · exact q (by rw [hu.1]; decide)
      have f42 : (T.1 a = 300 ∨ T.1 a = 301) → zp (zb_Reader_readTelling_42 N ρ τ (T.1 a)) (fun r => zp (zb_Reader_readText_42 N n r.1 r.2 (Int32.ofNat tv + 1)) (fun r' => zp (zb_M_read_105 N' m μ) (fun s => r'.1 17 6 = 0 → FLV r'.1 s.2))) := by
        intro hk
        unfold zb_Reader_readTelling_42
        exact zp_ite (fun n => fld 0 hk ⟨fun _ => n, fun _ => rfl⟩) fun n => fld 1 hk ⟨fun w => absurd w (by decide), fun w => absurd (Classical.not_not.mp n) w⟩
      refine zp_ite (fun q => absurd q (by decide)) fun _ => zp_ite (fun k => f42 (Or.inl k)) fun n0 => zp_ite (fun n1 => ?_) fun n1 => f42 (Or.inr (Classical.not_not.mp n1))
      unfold zb_Reader_readTelling_61 zb_Reader_readTelling_79
      refine zp_ite (fun q => absurd q (by decide)) fun _ => zp_ite (fun n2 => zp_ite (fun n3 => ?_) fun n3 => ?_) fun n2 => ?_
      · exact zp_bind (zp_mono (c_fail (by decide)) fun r k => zp_some (bad (r := (r.2, τ)) k.2.1))
      · refine zp_bind (zp_mono (zp_and c_thread c_threadV) fun r k => zp_some ?_)
        obtain ⟨k, kv⟩ := k
        rcases k.2.2 with b | ⟨b, _⟩
        · exact bad b
        · exact zp_mono (c_42V n r.1 r.2 _ (by rw [b, e42]; decide)) fun r' h' => ref ⟨n0, n1, n2⟩ fun w => ⟨(h' w).1.trans k.1, (h' w).2.trans kv⟩
      · have k2 : T.1 a = 302 := Classical.not_not.mp n2
        refine zp_bind (zp_mono (zp_and (t_lock (N' := N') rt c0 k2) (zp_and c_lock c_lockV)) fun r hr => zp_some fun r' e' => ?_)
        cases m with
        | zero => exact zp_none
        | succ m =>
          have go : zp (zb_M_read_136 (zb_M_read_105 N' m) N' μ) (fun s => r'.1 17 6 = 0 → FLV r'.1 s.2) := by
            refine m_136V (Q := fun _ => True) (P := fun s => OUTT T a r.1 r.2 s) (zp_mono (W 3 302 rfl (by decide)) fun u hu => ?_) (fun k hk => hr.1 k hk) fun s hs e8 => nxt m s hs (fun _ _ => fl.of hr.2.1.1 hr.2.2 e8) r' e'
            rcases hu with hu | hu
            · exact absurd k2 hu.2
            · rw [hu.1]; decide
          rw [zb_M_read_105]
          refine zp_ite (fun q => absurd sm.2.2.2 q) fun _ => zp_bind (zp_mono (W 1 300 rfl (by decide)) fun u hu => zp_ite (fun _ => go) fun q => zp_bind (zp_mono (W 2 301 rfl (by decide)) fun w hw => zp_ite (fun _ => go) fun q2 => zp_bind (zp_mono (W 3 302 rfl (by decide)) fun w hw => zp_ite (fun q3 => ?_) fun _ => go)))
          rcases hw with hw | hw
          · exact absurd k2 hw.2
          · rw [hw.1] at q3; exact absurd q3 (by decide)
theorem p_readTextV {N : Nat} {σ : zS} {τ : zT} (rs : RS τ) (tp : 0 ≤ σ 82 2 ∧ σ 82 2 ≤ 1500) (eq : σ 2 11 = σ 82 2) (te : σ 3 = σ 83) (br : ∀ i, -128 ≤ σ 83 i ∧ σ 83 i ≤ 127) : zp (zf_Reader_readText N σ τ (σ 2 11)) (fun r => ∀ μ, (∀ q, 82 ≤ q → μ q = σ q) → zp (zf_M_read N μ) (fun s => r.1 17 6 = 0 → FLV r.1 s.2)) := by
  unfold zf_Reader_readText zf_Names_clear zf_Weaver_beginThread
  refine zp_bind (zp_mono p_X_clear ?_)
  rintro r1 ⟨c1, c2, c3⟩
  refine zp_bind (zp_some (zp_bind (zp_some ?_)))
  generalize hS : (zx_up (zx_up (zx_up (zx_up (zx_up (zx_up (zx_up (zx_up (zx_up r1 18 3 0) 18 5 0) 29 8 0) 29 6 0) 29 7 (-1)) 29 9 0) 29 10 0) 29 11 0) 29 12 (-1)) = S
  have Sq : ∀ q, q ≠ 18 → q ≠ 29 → S q = r1 q := fun q a b => by
    rw [← hS]
    iterate 7 rw [zu_other b]
    rw [zu_other a, zu_other a]
  have S183 : S 18 3 = 0 := by rw [← hS]; simp [zx_up]
  have S296 : S 29 6 = 0 := by rw [← hS]; simp [zx_up]
  clear hS
  rw [eq]
  refine zp_bind (zp_mono (p_X_scan rs tp) ?_)
  rintro r4 ⟨s1, s2, s3, E, m, xc⟩
  intro r er μ hm
  have S3 : S 3 = σ 83 := by rw [Sq 3 (by decide) (by decide), c1 3 (by decide) (by decide) (by decide), zu_other (by decide), zu_other (by decide)]; exact te
  have go20 : ∀ (n i : Nat) (ν : zS), Int32.ofNat i ≤ σ 82 2 → i ≤ 1500 → (∀ q, q ≠ 84 → q ≠ 82 → ν q = μ q) → ν 82 4 = σ 82 2 → (∀ j, j < i → ν 84 j = σ 83 j) → zp (zb_M_read_20 N n ν (Int32.ofNat i)) (fun s => r.1 17 6 = 0 → FLV r.1 s.2) := by
    intro n
    induction n with
    | zero => intro _ _ _ _ _ _ _; exact zp_none
    | succ n ih =>
      intro i ν hi i15 f4 e4 cp
      rw [zb_M_read_20, e4]
      refine zp_ite (fun q => ?_) fun q => zp_chk fun ck => zp_chk fun _ => ?_
      ·
        have ei : Int32.ofNat i = σ 82 2 := Int32.le_antisymm hi q
        generalize hV : (zx_up (zx_up (zx_up (zx_up (zx_up (zx_up (zx_up (zx_up (zx_up (zx_up (zx_up ν 82 9 0) 82 10 0) 82 15 0) 82 16 0) 82 17 0) 82 25 0) 82 19 0) 82 5 0) 82 6 0) 82 53 0) 82 62 (-1)) = V
        have Vq : ∀ q, q ≠ 82 → V q = ν q := fun q hq => by rw [← hV]; iterate 11 rw [zu_other hq]
        have V4 : V 82 4 = σ 82 2 := by rw [← hV]; simp [zx_up]; exact e4
        have V0 : ∀ i, i = 5 ∨ i = 6 ∨ i = 9 ∨ i = 15 ∨ i = 16 ∨ i = 17 ∨ i = 19 ∨ i = 25 → V 82 i = 0 := fun i hi => by
          rw [← hV]
          rcases hi with h | h | h | h | h | h | h | h <;> subst h <;> simp [zx_up]
        clear hV
        have nat : ∀ x : Int32, 0 ≤ x → x < σ 82 2 → x.toNatClampNeg < i := by
          intro x h0 hx
          rw [← ei] at hx
          have a := z_nat h0
          have b := zo_ti (m := i) (by omega)
          have c := Int32.lt_iff_toInt_lt.mp hx
          omega
        have tbx := xc.tb (b' := V 84) tp.2 (by
          intro x h0 hx
          rw [S3, Vq 84 (by decide), cp _ (nat x h0 hx)])
        obtain ⟨tb, xat⟩ := tbx
        rw [← V4] at tb
        have brV : BR V := by
          intro x h0 hx
          rw [V4] at hx
          rw [Vq 84 (by decide), cp _ (nat x h0 hx)]
          exact br _
        refine zp_bind (zp_mono (p_M_at tb (a := 0) tb.2.2.2.1 (by rw [V0 5 (by decide), V0 6 (by decide), tb.2.2.1]; decide)) ?_)
        rintro ν2 ⟨mat, f2⟩
        have e84 := f2.1 84 (by decide)
        have e24 := f2.2 4 (by decide) (by decide) (by decide) (by decide)
        have z0 : ∀ i, i = 9 ∨ i = 15 ∨ i = 16 ∨ i = 17 ∨ i = 19 ∨ i = 25 → ν2 82 i = 0 := fun i hi => by rw [f2.2 i (by omega) (by omega) (by omega) (by omega)]; exact V0 i (by omega)
        have q17 : r4.1 17 6 = 0 := by rw [s1 17 (by decide) (by decide) (by decide), Sq 17 (by decide) (by decide), c1 17 (by decide) (by decide) (by decide), zx_up_same, zu_ne (by decide), zx_up_same, zu_eq]
        have q4 : ∀ i, i < 7 → r4.1 4 i = 0 := fun i hi => by rw [s1 4 (by decide) (by decide) (by decide), Sq 4 (by decide) (by decide)]; exact c2 i hi
        refine p_loopV (T := (r4.1 26, r4.1 27, r4.2 28, E, m)) (N := N) (N' := N) N r4.1 r4.2 0 0 (Nat.le_refl _) (fun _ => 0) (fun _ _ => 0) (fun _ => 0) ν2 N rfl ⟨⟨xat, q17⟩, ⟨by rw [e84, e24]; exact tb, by unfold BR; rw [e84, e24]; exact brV, mat, z0 9 (by decide)⟩, ?_, ?_, ?_, ?_, fun t ht => absurd ht (Nat.not_lt_zero _)⟩ ⟨fun f _ lt => ?_, fun k hk _ i _ => ?_⟩ r er
        · refine ⟨fun s hs => ⟨Nat.zero_le _, q4 s (by omega)⟩, ?_, fun i hi => absurd hi (Nat.not_lt_zero _), fun s k _ hk => absurd hk (Nat.not_lt_zero _), fun i j hi => absurd hi (Nat.not_lt_zero _)⟩
          rw [s1 18 (by decide) (by decide) (by decide)]; exact S183
        · exact fun s hs => ⟨Nat.zero_le _, z0 (15 + s) (by omega), fun k hk => absurd hk (Nat.not_lt_zero _)⟩
        · refine ⟨fun t ht => absurd ht (Nat.not_lt_zero _), fun t _ h4 => ?_, q4 4 (by decide), ⟨by rw [q4 3 (by decide), z0 25 (by decide)], by rw [q4 3 (by decide)]; decide⟩, ⟨by omega, ?_⟩, fun h => absurd h (Nat.lt_irrefl _), fun t s ht => absurd ht (Nat.not_lt_zero _)⟩
          · rw [s1 5 (by decide) (by decide) (by decide), Sq 5 (by decide) (by decide)]; exact c3 t h4
          · rw [s1 29 (by decide) (by decide) (by decide)]; exact S296
        · exact ⟨0, fun _ => 0, fun _ => 0, by omega, z0 19 (by decide), fun l hl => absurd hl (Nat.not_lt_zero _), fun l l' _ hl' => absurd hl' (Nat.not_lt_zero _), fun q hq => absurd hq.1.choose_spec.choose_spec.1 (Nat.not_lt_zero _)⟩
        · rw [q4 0 (by decide)] at lt
          have := (zo_lt (k := f) (j := 0) (by omega) (by omega)).mp lt
          omega
        · rw [q4 5 (by decide)]
          show (0 : Int32).toBitVec.getLsbD i = false
          by_cases c : i < 32
          · have z : ∀ i : Fin 32, (0 : Int32).toBitVec.getLsbD i.val = false := by decide +kernel
            exact z ⟨i, c⟩
          · exact BitVec.getLsbD_of_ge _ _ (by omega)
      · have lt := Int32.not_le.mp q
        have i14 : i < 1500 := (zo_lt (k := i) (j := 1500) (by omega) (by omega)).mp ck.2
        rw [zo_n (by omega), zo_1 (by omega)]
        have e83 : ν 83 = σ 83 := by rw [f4 83 (by decide) (by decide), hm 83 (by decide)]
        refine ih (i + 1) _ ?_ (by omega) (fun q a b => by rw [zu_other a]; exact f4 q a b) (by rw [zu_other (by decide)]; exact e4) (fun j hj => ?_)
        · rw [← zo_1 (by omega)]
          have a := Int32.lt_iff_toInt_lt.mp lt
          have b := zo_ti (m := i) (by omega)
          rw [zo_1 (by omega)]
          exact Int32.le_iff_toInt_le.mpr (by rw [zo_ti (by omega)]; omega)
        · rw [zx_up_same]
          by_cases e : j = i
          · rw [e, zu_eq, e83, zk_byte (br i).1 (br i).2]
          · rw [zu_ne e]; exact cp j (by omega)
  unfold zf_M_read
  have e2 : μ 82 2 = σ 82 2 := by rw [hm 82 (by decide)]
  refine go20 N 0 _ tp.1 (by omega) (fun q a b => ?_) ?_ (fun j hj => absurd hj (Nat.not_lt_zero _))
  · rw [zu_other b, zu_other b, zu_other b]
  · rw [zx_up_same, zu_ne (by decide), zx_up_same, zu_eq]; exact e2
theorem p_readV {N : Nat} {σ : zS} {τ : zT} (rs : RS τ) (tp : 0 ≤ σ 82 2 ∧ σ 82 2 ≤ 1500) (eq : σ 2 11 = σ 82 2) (te : σ 3 = σ 83) (br : ∀ i, -128 ≤ σ 83 i ∧ σ 83 i ≤ 127) : zp (zf_X_read N σ τ) (fun r => ∀ μ, (∀ q, 82 ≤ q → μ q = σ q) → zp (zf_M_read N μ) (fun s => r.2.1 2 13 = 1 → FLV r.2.1 s.2)) := by
  unfold zf_X_read
  refine zp_bind (zp_mono (p_readTextV rs tp eq te br) fun r1 h1 => ?_)
  have f40 : ∀ s0 : Int32, zp (zb_X_read_40 N (zx_up (zx_up r1.1 2 11 0) 2 12 (r1.1 17 6)) r1.2 s0) (fun r => r.2.1 2 13 = s0 ∧ ∀ q, q ≠ 2 → q ≠ 75 → q ≠ 76 → r.2.1 q = r1.1 q) := by
    intro s0
    unfold zb_X_read_40 zf_Judge_forget
    refine zp_chk fun _ => zp_bind (zp_some (zp_bind (zp_mono y_fill fun r5 h5 => ?_)))
    have e13 : r5 2 13 = s0 := by
      rw [h5 2 (by decide), zu_other (by decide), zx_up_same, zu_ne (by decide), zx_up_same, zu_ne (by decide), zx_up_same, zu_ne (by decide), zx_up_same, zu_eq]
    have e4 : ∀ q, q ≠ 2 → q ≠ 75 → q ≠ 76 → r5 q = r1.1 q := fun q a b c => by
      rw [h5 q b, zu_other c]
      iterate 6 rw [zu_other a]
    exact zp_ite (fun _ => zp_some ⟨e13, e4⟩) fun _ => zp_some ⟨e13, e4⟩
  refine zp_ite (fun z => zp_mono (f40 0) fun r hr μ hm => zp_mono (h1 μ hm) fun s hs w => ?_) fun z => zp_mono (f40 1) fun r hr μ hm => zp_mono (h1 μ hm) fun s hs w => ?_
  · rw [hr.1] at w
    exact absurd w (by decide)
  · have k := hs (Classical.not_not.mp z)
    have e := fun q a b c => hr.2 q a b c
    exact k.of (by rw [e 4 (by decide) (by decide) (by decide)]) (by rw [e 4 (by decide) (by decide) (by decide)]) rfl
