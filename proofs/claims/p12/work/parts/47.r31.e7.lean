-- both answer alike
set_option maxRecDepth 2000
def NSF (σ : zS) : Prop := ∃ nc : Nat → Nat → Nat, ∀ t, t < 4 → ∃ n, n ≤ 24 ∧ σ 5 t = Int32.ofNat n ∧ NSR t n σ nc
theorem NSZ.f {σ : zS} (h : NSZ σ) : NSF σ := by
  obtain ⟨m, nc, _, _, h, _⟩ := h
  exact ⟨nc, h⟩
theorem NSP.f {t L d : Nat} {σ : zS} {nc nb : Nat → Nat → Nat} (h : NSP t L d σ nc nb) : NSF σ := ⟨nc, fun t' ht' => by
  by_cases c : t' = t
  · rw [c]; exact ⟨L, h.1.2.1, h.2.1.2.1, h.2.2.2.1⟩
  · exact h.2.2.2.2.2.1 t' ht' c⟩
theorem NSO.f {σ0 σ : zS} (h : NSO σ0 σ) (w : σ 17 6 = 0) : NSF σ := by
  rcases (h w).2 with ⟨t, L, d, nc, nb, _, p⟩ | z
  · exact p.f
  · exact z.1.f
theorem NSR.sub {t n : Nat} {ρ r : zS} {nc : Nat → Nat → Nat} (h : NSR t n ρ nc) (e : ∀ q, q = 7 ∨ q = 9 ∨ q = 10 ∨ q = 11 → r q = ρ q) (e8 : ∀ j, (ρ 7 j = 3 ∨ ρ 7 j = 4) → r 8 j = ρ 8 j) : NSR t n r nc := by
  obtain ⟨h1, h2, h3, h4⟩ := h
  have o : ∀ j m, OUTN (ρ 7 j) (r 8 j) m = OUTN (ρ 7 j) (ρ 8 j) m := fun j m => by
    by_cases c : ρ 7 j = 3 ∨ ρ 7 j = 4
    · rw [e8 j c]
    · funext l
      unfold OUTN
      rw [if_neg fun w => c (Or.inl w.1), if_neg fun w => c (Or.inr w.1), if_neg fun w => c (Or.inl w.1), if_neg fun w => c (Or.inr w.1)]
  refine ⟨fun s hs l hl => ⟨by rw [e 11 (by decide)]; exact (h1 s hs l hl).1, (h1 s hs l hl).2.1, fun a b => by rw [e 7 (by decide)] at a; rw [e8 _ (Or.inr a)] at b; exact (h1 s hs l hl).2.2 a b⟩, h2, fun s s' hs hs' k w => ?_, by rw [e 10 (by decide)]; exact h4⟩
  rw [e 7 (by decide)] at k ⊢
  rw [e 9 (by decide)] at w
  rw [o]
  exact h3 s s' hs hs' k w
theorem f_93 {N : Nat} {ρ : zS} {τ : zT} (h : NSF ρ) : zp (zb_Reader_readText_93 N ρ τ) (fun r => NSF r.1) := by
  unfold zb_Reader_readText_93
  have go : ∀ (n : Nat) (r : zS) (v : Int32), NSF r → zp (zb_Reader_readText_95 N n r τ v) (fun r => NSF r.1) := by
    intro n
    induction n with
    | zero => intro _ _ _; exact zp_none
    | succ n ih =>
      intro r v h
      rw [zb_Reader_readText_95]
      refine zp_ite (fun _ => zp_some h) fun _ => zp_ite (fun _ => zp_some h) fun _ => zp_bind (zp_mono (P := fun r => NSF r) ?_ fun r8 h8 => ih _ _ h8)
      unfold zf_Reader_findThread
      have A : ∀ q : Int32, (r 7 q.toNatClampNeg = 10 ∨ r 7 q.toNatClampNeg = 11) → zp (zb_Reader_findThread_45 N r τ q) (fun r => NSF r) := fun q hq => by
        unfold zb_Reader_findThread_45 zf_Program_setThread
        have G : ∀ r' : zS, (∀ p, p = 5 ∨ p = 7 ∨ p = 9 ∨ p = 10 ∨ p = 11 → r' p = r p) → (∀ j, j ≠ q.toNatClampNeg → r' 8 j = r 8 j) → NSF r' := fun r' e e8 => by
          obtain ⟨nc, h⟩ := h
          refine ⟨nc, fun t ht => ?_⟩
          obtain ⟨n, n24, e5, nr⟩ := h t ht
          refine ⟨n, n24, by rw [e 5 (by decide)]; exact e5, nr.sub (fun p hp => e p (by omega)) fun j hj => e8 j fun c => ?_⟩
          rw [c] at hj
          rcases hq with k | k <;> rw [k] at hj <;> exact absurd hj (by decide)
        have P : ∀ x : Int32, NSF (zx_up r 8 q.toNatClampNeg x) := fun x => G _ (fun p hp => zu_other (by omega)) fun j hj => by rw [zx_up_same, zu_ne hj]
        refine zp_chk fun _ => zp_bind fun r6 _ => zp_ite (fun _ => zp_bind (zp_ite (fun _ => zp_some (zp_some h)) fun _ => zp_ite (fun _ => zp_some (zp_some h)) fun _ => zp_ite (fun _ => zp_some (zp_some h)) fun _ => zp_ite (fun _ => zp_some (zp_some h)) fun _ => zp_chk fun _ => zp_chk fun _ => zp_ite (fun _ => zp_some (zp_some (P _))) fun _ => zp_chk fun _ => zp_chk fun _ => zp_some (zp_some ?_))) fun _ => zp_chk fun _ => zp_some ?_
        · exact G _ (fun p hp => by rw [zu_other (by omega), zu_other (by omega)]) fun j hj => by rw [zu_other (by decide), zx_up_same, zu_ne hj]
        · exact G _ (fun p hp => by rw [zu_other (by omega), zu_other (by omega)]) fun j _ => by rw [zu_other (by decide), zu_other (by decide)]
      exact zp_bind fun r1 _ => zp_chk fun _ => zp_ite (fun _ => zp_some h) fun _ => zp_ite (fun k => A r1 (Or.inl k)) fun _ => zp_ite (fun k => A r1 (Or.inr k)) fun _ => zp_some h
  exact go N ρ 0 h
theorem NSZ.of {ρ r : zS} (h : NSZ ρ) (e : ∀ q, q = 5 ∨ q = 7 ∨ q = 8 ∨ q = 9 ∨ q = 10 ∨ q = 11 → r q = ρ q) (e4 : r 4 2 = ρ 4 2) : NSZ r := by
  obtain ⟨m, nc, m4, e2, h1, h2⟩ := h
  refine ⟨m, nc, m4, e4.trans e2, fun t ht => ?_, by rw [e 5 (by decide)]; exact h2⟩
  obtain ⟨n, n24, e5, nr⟩ := h1 t ht
  exact ⟨n, n24, by rw [e 5 (by decide)]; exact e5, nr.of fun s hs => ⟨by rw [e 7 (by decide)], by rw [e 8 (by decide)], by rw [e 9 (by decide)], by rw [e 10 (by decide)], by rw [e 11 (by decide)], rfl⟩⟩
theorem f_thread {N : Nat} {σ0 ρ : zS} {τ : zT} (h : ρ 17 6 = 0 → NML ρ ∧ NSZ ρ) : zp (zf_Reader_tellThread N ρ τ) (fun r => NSA σ0 r.1) := by
  unfold zf_Reader_tellThread
  refine zp_bind (zp_mono y_adv fun r1 h1 => ?_)
  have e1 : r1.1 17 = ρ 17 := h1 17 (by decide)
  have n1 : r1.1 17 6 = 0 → NML r1.1 ∧ NSZ r1.1 := fun w => by
    obtain ⟨a, b⟩ := h ((congrFun e1 6).symm.trans w)
    exact ⟨a.of (congrFun (h1 18 (by decide)) 3) (h1 20 (by decide)) (h1 21 (by decide)), b.of (fun q hq => h1 q (by omega)) (congrFun (h1 4 (by decide)) 2)⟩
  have tn : zp (zf_Reader_tellName N r1.1 r1.2 2 (r1.1 4 2) 4) (fun r => r.1 = 0 → ¬ r.2.1 17 6 = 0) := zp_mono c_tellName fun r k => k.1
  have tm : zp (zf_Reader_tellName N r1.1 r1.2 2 (r1.1 4 2) 4) (fun r => r.2.1 17 6 = 0 → NML r.2.1 ∧ NSZ r.2.1 ∧ r1.1 4 2 < 4 ∧ r.2.1 4 = r1.1 4) := by
    unfold zf_Reader_tellName
    have F : ∀ k : Int32, ¬ k = 0 → zp ((zf_Reader_failHere r1.1 k).bind fun r7 => if r7.1 = 0 ∨ r7.1 = 1 then some (r7.1, r7.2, r1.2) else none) (fun r => r.2.1 17 6 = 0 → NML r.2.1 ∧ NSZ r.2.1 ∧ r1.1 4 2 < 4 ∧ r.2.1 4 = r1.1 4) := fun k hk => zp_bind (zp_mono (c_fail hk) fun r h => zp_chk fun _ => zp_some fun w => absurd w h.2.1)
    have T : zp (zf_Names_tell r1.1 r1.2 (r1.2 25 9) 2 (r1.1 4 2)) (fun r => (r1.1 17 6 = 0 → NML r.1) ∧ ∀ q, q ≠ 18 → q ≠ 20 → q ≠ 21 → r.1 q = r1.1 q) := by
      unfold zf_Names_tell
      refine zp_ite (fun _ => zp_some ⟨fun w => (n1 w).1, fun _ _ _ _ => rfl⟩) fun c0 => zp_ite (fun _ => zp_some ⟨fun w => (n1 w).1, fun _ _ _ _ => rfl⟩) fun c1 => zp_chk fun _ => zp_chk fun _ => zp_chk fun _ => zp_some ⟨fun w => ?_, fun q a b c => ?_⟩
      · obtain ⟨a0, a1⟩ := (n1 w).1
        have k0 : (0 : Int32).toInt = 0 := rfl
        have k1 : (1 : Int32).toInt = 1 := rfl
        have k14 : (14 : Int32).toInt = 14 := rfl
        have a := Int32.le_iff_toInt_le.mp a0
        have b := Int32.lt_iff_toInt_lt.mp (Int32.not_le.mp c1)
        have n := z_nat a0
        have s := z_ti_add (a := r1.1 18 3) (b := 1) (by omega) (by omega)
        dsimp only
        refine ⟨?_, fun i hi lt e => ?_⟩
        · rw [zx_up_same, zu_eq]
          exact Int32.le_iff_toInt_le.mpr (by omega)
        · rw [zx_up_same, zu_eq] at lt
          rw [zu_other (by decide), zu_other (by decide), zx_up_same] at e
          have l := Int32.lt_iff_toInt_lt.mp lt
          rw [zo_ti (by omega), s] at l
          have c : i ≠ (r1.1 18 3).toNatClampNeg := fun c => by
            rw [c, zu_eq] at e
            exact absurd e (by decide)
          rw [zu_ne c] at e
          have e21 : (zx_up (zx_up (zx_up r1.1 20 (r1.1 18 3).toNatClampNeg 2) 21 (r1.1 18 3).toNatClampNeg (r1.1 4 2)) 18 3 ((r1.1 18 3) + 1)) 21 i = r1.1 21 i := by rw [zu_other (by decide), zx_up_same, zu_ne c, zu_other (by decide)]
          rw [e21]
          exact a1 i hi (Int32.lt_iff_toInt_lt.mpr (by rw [zo_ti (by omega)]; omega)) e
      · dsimp only
        rw [zu_other a, zu_other c, zu_other b]
    refine zp_ite (fun _ => zp_bind fun r2 _ => zp_ite (fun _ => zp_ite (fun lt => zp_bind (zp_mono T fun r5 h5 => zp_bind (zp_mono y_adv fun r6 h6 => zp_some fun w => ?_))) fun _ => F 4 (by decide)) fun _ => F 3 (by decide)) fun _ => F 2 (by decide)
    have e6 : ∀ q, q ≠ 18 → q ≠ 20 → q ≠ 21 → q ≠ 25 → r6.1 q = r1.1 q := fun q a b c d => (h6 q d).trans (h5.2 q a b c)
    have w1 : r1.1 17 6 = 0 := (congrFun (e6 17 (by decide) (by decide) (by decide) (by decide)) 6).symm.trans w
    obtain ⟨_, z⟩ := n1 w1
    exact ⟨(h5.1 w1).of (congrFun (h6 18 (by decide)) 3) (h6 20 (by decide)) (h6 21 (by decide)), z.of (fun q hq => e6 q (by omega) (by omega) (by omega) (by omega)) (congrFun (e6 4 (by decide) (by decide) (by decide) (by decide)) 2), lt, e6 4 (by decide) (by decide) (by decide) (by decide)⟩
  refine zp_bind (zp_mono (zp_and tn tm) fun r2 h2 => zp_ite (fun z => zp_some (NSA.bad (h2.1 z))) fun nz => ?_)
  unfold zf_Names_forgetLocals zf_Weaver_beginThread
  refine zp_bind (zp_some (zp_bind (zp_some ?_)))
  generalize hS : (zx_up (zx_up (zx_up (zx_up (zx_up (zx_up (zx_up (zx_up r2.2.1 18 5 0) 29 8 ((zx_up r2.2.1 18 5 0) 4 2)) 29 6 0) 29 7 (-1)) 29 9 0) 29 10 0) 29 11 0) 29 12 (-1)) = S
  have Sq : ∀ q, q ≠ 18 → q ≠ 29 → S q = r2.2.1 q := fun q a b => by rw [← hS, zu_other b, zu_other b, zu_other b, zu_other b, zu_other b, zu_other b, zu_other b, zu_other a]
  have S18 : S 18 3 = r2.2.1 18 3 := by
    rw [← hS]
    iterate 7 rw [zu_other (by decide)]
    rw [zx_up_same, zu_ne (by decide)]
  have S8 : S 29 8 = r2.2.1 4 2 := by
    rw [← hS]
    iterate 6 rw [zx_up_same, zu_ne (by decide)]
    rw [zx_up_same, zu_eq, zu_other (by decide)]
  have S6 : S 29 6 = 0 := by
    rw [← hS]
    iterate 5 rw [zx_up_same, zu_ne (by decide)]
    rw [zx_up_same, zu_eq]
  have S7 : S 29 7 = -1 := by
    rw [← hS]
    iterate 4 rw [zx_up_same, zu_ne (by decide)]
    rw [zx_up_same, zu_eq]
  have S9 : S 29 9 = 0 := by
    rw [← hS]
    iterate 3 rw [zx_up_same, zu_ne (by decide)]
    rw [zx_up_same, zu_eq]
  have S10 : S 29 10 = 0 := by
    rw [← hS]
    iterate 2 rw [zx_up_same, zu_ne (by decide)]
    rw [zx_up_same, zu_eq]
  have S11 : S 29 11 = 0 := by
    rw [← hS, zx_up_same, zu_ne (by decide), zx_up_same, zu_eq]
  clear hS
  have up : ∀ q, q ≠ 4 → (zx_up S 4 2 ((S 4 2) + 1)) q = S q := fun q hq => zu_other hq
  refine zp_bind (zp_mono (zp_and y_open17 (y_open1 (d := 0) (by rw [up 29 (by decide)]; exact S6) (by omega))) fun r6 ⟨f, g⟩ => zp_some fun w' => ?_)
  obtain ⟨w17, f18, f20, f21⟩ := f w'
  obtain ⟨d8, r1', e, en⟩ := g w'
  have w2 : r2.2.1 17 6 = 0 := by
    rw [up 17 (by decide), Sq 17 (by decide) (by decide)] at w17
    exact w17
  obtain ⟨nm, ⟨m, nc, m4, e2, z1, z2⟩, lt, e4⟩ := h2.2 w2
  have m3 : m < 4 := by
    rw [← e4, e2] at lt
    exact (zo_lt (k := m) (j := 4) (by omega) (by omega)).mp lt
  have S4 : S 4 2 = Int32.ofNat m := by rw [Sq 4 (by decide) (by decide)]; exact e2
  have E : ∀ q, q ≠ 4 → q ≠ 18 → q ≠ 25 → q ≠ 29 → r1' q = r2.2.1 q := fun q a b c d => by rw [e q c, up q a, Sq q b d]
  have E29 : ∀ i, r1' 29 i = S 29 i := fun i => by rw [e 29 (by decide), up 29 (by decide)]
  have m5 : r2.2.1 5 m = 0 := z2 m (Nat.le_refl _) m3
  have em : NSR m 0 r1' nc := ⟨fun s hs => absurd hs (Nat.not_lt_zero _), fun hs => absurd hs (Nat.not_lt_zero _), fun s s' hs => absurd hs (Nat.not_lt_zero _), fun s s' hs => absurd hs (Nat.not_lt_zero _)⟩
  have z0 : ∀ l, INS 0 (-1) (fun _ => 0) l = 0 := fun l => by
    unfold INS
    rw [if_neg fun w => absurd w.1 (by decide)]
  have oth : OTN m r1' nc := fun t' ht' ne => by
    obtain ⟨n, n24, e5, nr⟩ := z1 t' ht'
    exact ⟨n, n24, by rw [E 5 (by decide) (by decide) (by decide) (by decide)]; exact e5, nr.of fun s hs => ⟨by rw [E 7 (by decide) (by decide) (by decide) (by decide)], by rw [E 8 (by decide) (by decide) (by decide) (by decide)], by rw [E 9 (by decide) (by decide) (by decide) (by decide)], by rw [E 10 (by decide) (by decide) (by decide) (by decide)], by rw [E 11 (by decide) (by decide) (by decide) (by decide)], rfl⟩⟩
  have e11 : r6.1 29 11 = 0 := by
    rcases en.2.2.2.2.2.2 with k | ⟨_, _, _, k | k⟩
    · exact absurd k.1 (by decide)
    · exact absurd k.1 (by decide)
    · rw [k.2, E29 11, S11]
  have p := NSQ.enter (t := m) (L := 0) (d := 0) (nb := fun _ _ => 0) (w := fun _ => 0) ⟨m3, by omega, by omega⟩ ⟨by rw [E29 8, S8]; exact e2, by rw [E 5 (by decide) (by decide) (by decide) (by decide)]; exact m5, by rw [E29 6, S6]; rfl⟩ ⟨by rw [e 4 (by decide), zx_up_same, zu_eq, S4, zo_1 (by omega)], fun t' a b => by rw [E 5 (by decide) (by decide) (by decide) (by decide)]; exact z2 t' (by omega) b⟩ em (fun _ _ => rfl) (fun i hi => absurd hi (Nat.not_lt_zero _)) (fun l hl => by rw [E29 11, S11]; exact ⟨fun k => absurd k (bit_zero (by omega)), fun k => absurd k (Nat.lt_irrefl _)⟩) ⟨fun s hs b => absurd (by rw [E29 9, S9] at b; exact b) (bit_zero hs), fun s hs b => absurd (by rw [E29 10, S10] at b; exact b) (bit_zero hs)⟩ (fun i hi => absurd hi (Nat.not_lt_zero _)) (fun _ l _ => z0 l) (fun s s' hs => absurd hs (Nat.not_lt_zero _)) oth (Or.inl (by rw [E29 7]; exact S7)) (fun l _ => (z0 l).symm) (by omega) en ⟨fun _ => rfl, fun _ => rfl⟩ (fun k => absurd k (by decide)) (fun l hl => by rw [e11, z0 l]; exact ⟨fun k => absurd k (bit_zero (by omega)), fun k => absurd k (Nat.lt_irrefl _)⟩)
  refine ⟨nm.of ?_ ?_ ?_, m, 0, 1, nc, _, by omega, p⟩
  · rw [congrFun f18 3, up 18 (by decide), S18]
  · rw [f20, up 20 (by decide), Sq 20 (by decide) (by decide)]
  · rw [f21, up 21 (by decide), Sq 21 (by decide) (by decide)]
theorem f_bad93 {N : Nat} {ρ : zS} {τ : zT} (w : ¬ ρ 17 6 = 0) : zp (zb_Reader_readText_93 N ρ τ) (fun r => ¬ r.1 17 6 = 0) := by
  unfold zb_Reader_readText_93
  cases N with
  | zero => exact zp_none
  | succ N =>
    rw [zb_Reader_readText_95]
    exact zp_ite (fun _ => zp_some w) fun _ => zp_ite (fun _ => zp_some w) fun k => absurd w k
theorem f_42 {N : Nat} : ∀ (n : Nat) (σ : zS) (τ : zT) (v : Int32), (0 < σ 4 2 ∧ σ 4 2 ≤ 4) → NSO σ σ → zp (zb_Reader_readText_42 N n σ τ v) (fun r => r.1 17 6 = 0 → NSF r.1) := by
  intro n
  induction n with
  | zero => intro _ _ _ _ _; exact zp_none
  | succ n ih =>
    intro σ τ v h o
    rw [zb_Reader_readText_42]
    unfold zb_Reader_readText_87
    have E : zp (zb_Reader_readText_93 N σ τ) (fun r => r.1 17 6 = 0 → NSF r.1) := by
      by_cases w : σ 17 6 = 0
      · exact zp_mono (f_93 (o.f w)) fun r k _ => k
      · exact zp_mono (f_bad93 w) fun r k w' => absurd w' k
    refine zp_ite (fun _ => E) fun _ => zp_ite (fun _ => E) fun w0 => ?_
    have w := Classical.not_not.mp w0
    have go : ∀ (r : zS × zT), (¬ r.1 17 6 = 0 ∨ (0 < r.1 4 2 ∧ r.1 4 2 ≤ 4)) → NSO r.1 r.1 → zp (zb_Reader_readText_42 N n r.1 r.2 (v + 1)) (fun r => r.1 17 6 = 0 → NSF r.1) := fun r k o' => by
      rcases k with k | k
      · exact zp_mono (p_XF_42 (p := r.1 17 7) ⟨k, rfl⟩) fun r' h' w => absurd w h'.1
      · exact ih r.1 r.2 (v + 1) k o'
    refine zp_ite (fun d0 => zp_ite (fun _ => E) fun _ => zp_bind ?_) fun dn => zp_bind (zp_mono (zp_and (y_statement (σ0 := σ) fun _ => ?_) (wf_f_Reader_readStatement (σ0 := σ) fun _ _ _ => rfl)) fun r k => go r (Or.inr ?_) k.1)
    · have z : NML σ ∧ NSZ σ := by
        rcases (o w).2 with ⟨t, L, d, nc, nb, hd, p⟩ | z
        · rw [p.2.1.2.2] at d0
          have := (zo_le (k := d) (j := 0) (by have := p.1.2.2; omega) (by omega)).mp d0
          omega
        · exact ⟨(o w).1, z.1⟩
      unfold zf_Reader_readTelling zb_Reader_readTelling_23 zb_Reader_readTelling_61 zb_Reader_readTelling_79
      have nz : ¬ σ 4 2 = 0 := fun w => by rw [w] at h; exact absurd h.1 (by decide)
      refine zp_ite (fun _ => zp_ite (fun _ => zp_ite (fun _ => zp_ite (fun _ => zp_bind (zp_mono (c_fail (by decide)) fun r k => zp_some (go (r.2, τ) (Or.inl k.2.1) fun w => absurd w k.2.1))) fun _ => zp_bind (zp_mono (zp_and c_thread (f_thread (σ0 := σ) fun _ => z)) fun r k => zp_some (go r (k.1.2.2.imp id fun w => ?_) (NSA.o k.2)))) fun w => absurd rfl w) fun w => absurd rfl w) fun w => absurd nz w
      rw [w.1]
      have k0 : (0 : Int32).toInt = 0 := rfl
      have k1 : (1 : Int32).toInt = 1 := rfl
      have k4 : (4 : Int32).toInt = 4 := rfl
      have a := Int32.lt_iff_toInt_lt.mp h.1
      have b := Int32.lt_iff_toInt_lt.mp w.2
      have s := z_ti_add (a := σ 4 2) (b := 1) (by omega) (by omega)
      exact ⟨Int32.lt_iff_toInt_lt.mpr (by omega), Int32.le_iff_toInt_le.mpr (by omega)⟩
    · rcases (o w).2 with p | z
      · exact ⟨(o w).1, p⟩
      · exact absurd (by rw [z.2]; decide) dn
    · rw [k.2 2 (by decide) (by decide)]
      exact h
