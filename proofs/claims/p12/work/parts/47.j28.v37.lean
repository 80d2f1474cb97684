-- both answer alike
set_option maxRecDepth 2000
theorem p_take0 {T : TS} {a : Nat} {ρ : zS} {τ : zT} {b : Nat → Int32} {n x : Int32} (tb : TB b n T.1 T.2.1 T.2.2.1 T.2.2.2.1 T.2.2.2.2) (h : SX T a ρ τ) (hx : ¬ x = 0 ∧ ¬ x = 1) : zp (zf_Reader_expect ρ τ x) (fun r => (r.1 = 0 ∧ T.1 a ≠ x ∧ XFl r.2.1 (T.2.1 a)) ∨ (r.1 = 1 ∧ T.1 a = x ∧ SX T (a + 1) r.2.1 r.2.2 ∧ XA0 ρ r.2.1 ∧ (∀ q, q ≠ 25 → r.2.2 q = τ q))) := by
  unfold zf_Reader_expect
  rw [h.k]
  refine zp_ite (fun d => ?_) fun d => ?_
  · refine zp_bind (zp_mono (h.adv tb (by rw [d]; exact hx)) ?_)
    rintro r ⟨r1, r2, r3⟩
    exact zp_some (Or.inr ⟨rfl, d, r1, r2, r3⟩)
  · refine zp_bind (zp_mono (p_X_fail (by decide)) ?_)
    rintro r ⟨r1, r2⟩
    rw [h.p] at r2
    exact zp_chk fun _ => zp_some (Or.inl ⟨r1, d, r2⟩)
theorem p_M_take0 {T : TS} {a N : Nat} {μ : zS} {x : Int32} (sm : SM T a μ) (hx : isSg x) : zp (zf_M_take N μ x) (fun s => (T.1 a ≠ x ∧ MFl s (T.2.1 a)) ∨ (T.1 a = x ∧ SM T (a + 1) s ∧ NX0 μ s)) := by
  unfold zf_M_take
  refine zp_ite (fun _ => zp_bind (zp_mono (p_M_isSign sm.d hx) fun r hr => zp_ite (fun z => zp_bind (zp_mono (p_M_cannot sm.2.2.2) fun s hs => zp_some (Or.inl ⟨?_, by rw [← sm.p]; exact hs⟩))) fun z => ?_)) fun q => absurd sm.2.2.2 q
  · rcases hr with hr | hr
    · exact hr.2
    · rw [hr.1] at z; exact absurd z (by decide)
  · rcases hr with hr | hr
    · exact absurd hr.1 z
    · exact zp_bind (zp_mono (sm.nx (by rw [hr.2]; constructor <;> intro q <;> rw [q] at hx <;> exact absurd hx (by decide))) fun s hs => zp_some (Or.inr ⟨hr.2, hs⟩))
theorem p_tell2 {T : TS} {b N N' s : Nat} {c : Nat → Nat} {ws : Nat → Nat → Int64} {ρ : zS} {τ : zT} {bb : Nat → Int32} {nn : Int32} (tb : TB bb nn T.1 T.2.1 T.2.2.1 T.2.2.2.1 T.2.2.2.2) (sx : SX T b ρ τ) (h : NX3 c ws ρ τ) (hs : s < 3) : zp (zf_Reader_tellName N ρ τ (Int32.ofNat s) (Int32.ofNat (c s)) (Int32.ofNat (cap s))) (fun r => (r.1 = 0 ∧ XFl r.2.1 (T.2.1 b) ∧ ∀ μ, SM T b μ → NM3 c ws μ → zp (zf_M_readTold N' μ (Int32.ofNat (bs s)) (Int32.ofNat (c s)) (Int32.ofNat (cap s))) (fun s => MFl s (T.2.1 b))) ∨ (r.1 = 1 ∧ c s < cap s ∧ SX T (b + 1) r.2.1 r.2.2 ∧ (∀ s k, s < 3 → k < c s → ws s k ≠ T.2.2.1 b) ∧ TLD c s (T.2.2.1 b) ρ r.2.1 τ r.2.2 ∧ ∀ μ, SM T b μ → NM3 c ws μ → zp (zf_M_readTold N' μ (Int32.ofNat (bs s)) (Int32.ofNat (c s)) (Int32.ofNat (cap s))) (fun ν => SM T (b + 1) ν ∧ ∃ μ2, MC0 (bs s + c s) μ μ2 ∧ Nm μ2 (bs s + c s) (T.2.2.1 b) ∧ NX0 μ2 ν))) := by
  have c6 := cap_le s
  have cc := (h.1 s hs).1
  refine zp_mono (p_tell (N' := N') tb sx h hs) fun r hr => ?_
  rcases hr with ⟨e, x, hw⟩ | ⟨e, k3, lt, sx', no, tld, m⟩
  · refine Or.inl ⟨e, x, fun μ sm nm => ?_⟩
    unfold zf_M_readTold
    have can : zp ((zf_M_cannot μ).bind fun r => some r) (fun s => MFl s (T.2.1 b)) := zp_bind (zp_mono (p_M_cannot sm.2.2.2) fun s hs => zp_some (by rw [← sm.p]; exact hs))
    have fl : ∀ k, zp ((zf_M_fail μ k).bind fun r => some r) (fun s => MFl s (T.2.1 b)) := fun k => zp_bind (zp_mono (p_M_fail sm.2.2.2) fun s hs => zp_some (by rw [← sm.p]; exact hs))
    rcases hw with k3 | ⟨k3, m⟩ | ⟨k3, full, m⟩
    · exact zp_ite (fun q => absurd (sm.d.name.mp q) k3) fun _ => can
    · refine zp_ite (fun _ => zp_bind (zp_mono (m μ sm nm) fun u hu => zp_ite (fun q => absurd (q.symm.trans hu) (by decide)) fun _ => fl 3)) fun _ => can
    · refine zp_ite (fun _ => zp_bind (zp_mono (m μ sm nm) fun u hu => zp_ite (fun _ => zp_ite (fun q => absurd (by rw [full]) q) fun _ => fl 4) fun _ => fl 3)) fun _ => can
  · refine Or.inr ⟨e, lt, sx', no, tld, fun μ sm nm => ?_⟩
    unfold zf_M_readTold
    have bl : bs s + c s < 14 := by
      have := bs_ne (c := c) (k := 0) hs hs lt cc
      unfold bs
      unfold cap at lt
      match s, hs with
      | 0, _ => simp at lt ⊢; omega
      | 1, _ => simp at lt ⊢; omega
      | 2, _ => simp at lt ⊢; omega
    have eb : Int32.ofNat (bs s) + Int32.ofNat (c s) = Int32.ofNat (bs s + c s) := zo_plus rfl (by omega)
    rw [eb]
    refine zp_ite (fun _ => zp_bind (zp_mono (m μ sm nm) fun u hu => zp_ite (fun _ => zp_ite (fun _ => zp_bind (zp_mono (p_M_call (by omega) (sm.cur k3)) ?_)) fun q => ?_) fun q => absurd hu q)) fun q => absurd (sm.d.name.mpr k3) q
    · rintro μ2 ⟨mc, nmm⟩
      have sm2 : SM T b μ2 := sm.of (mc.1 84 (by decide) (by decide)) fun i _ => by rw [mc.1 82 (by decide) (by decide)]
      refine zp_bind (zp_mono (sm2.nx (by rw [k3]; decide)) ?_)
      rintro ν ⟨n1, n2⟩
      exact zp_some ⟨n1, μ2, mc, nmm, n2⟩
    · exfalso
      have := zo_inj (k := c s) (j := cap s) (by omega) (by omega) (Classical.not_not.mp q)
      omega
def RT (T : TS) (a : Nat) (c : Nat → Nat) (ws : Nat → Nat → Int64) (len : Nat → Nat) (ρ : zS) (τ : zT) (μ : zS) : Prop :=
  SX T a ρ τ ∧ SM T a μ ∧ NX3 c ws ρ τ ∧ NM3 c ws μ ∧ PKW c len 0 ρ μ ∧ LAT c ws len ρ τ μ ∧ ∀ t, t < c 2 → WRT t (len t) ρ μ
def OUTT (T : TS) (a : Nat) (ρ : zS) (τ : zT) (μ : zS) : Prop :=
  (∃ p, XFl ρ p ∧ MFl μ p) ∨ (∃ a' c ws len, a < a' ∧ c 2 = 0 ∧ RT T a' c ws len ρ τ μ)
theorem PKW.congr {c c' len : Nat → Nat} {ρ μ r ν : zS} (h : PKW c len 0 ρ μ) (e : c' 2 = c 2) (g : ∀ q, q = 5 ∨ q = 7 → r q = ρ q) (g4 : r 4 3 = ρ 4 3 ∧ r 4 4 = ρ 4 4) (g29 : r 29 6 = ρ 29 6) (gm : ∀ q, q = 90 ∨ q = 92 → ν q = μ q) (g2 : ν 82 25 = μ 82 25) : PKW c' len 0 r ν := by
  obtain ⟨p1, p2, p3, p4, p5, p6, p7⟩ := h
  unfold PKW
  rw [e, g 5 (by decide), g 7 (by decide), g4.1, g4.2, g29, gm 90 (by decide), gm 92 (by decide), g2]
  exact ⟨p1, p2, p3, p4, p5, fun q => absurd q (Nat.lt_irrefl _), p7⟩
theorem LAT.congr {c c' : Nat → Nat} {ws ws' : Nat → Nat → Int64} {len : Nat → Nat} {ρ : zS} {τ : zT} {μ : zS} (h : LAT c ws len ρ τ μ) (e : c' 2 = c 2) (ew : ∀ k, k < c 2 → ws' 2 k = ws 2 k) : LAT c' ws' len ρ τ μ := by
  obtain ⟨nz, wz, SL, h1, h2, h3, h4, h5⟩ := h
  have A : ∀ q, SJ c' len μ q ↔ SJ c len μ q := fun q => by unfold SJ; rw [e]
  refine ⟨nz, wz, SL, h1, h2, fun l hl => ⟨(h3 l hl).1, (A _).mpr (h3 l hl).2.1, (h3 l hl).2.2⟩, h4, fun q hq => ?_⟩
  rcases h5 q ((A q).mp hq) with ⟨k, k1, k2, k3⟩ | h
  · exact Or.inl ⟨k, by rw [e]; exact k1, k2, by rw [ew k k1]; exact k3⟩
  · exact Or.inr h
theorem t_end {T : TS} {a' s : Nat} {c : Nat → Nat} {ws : Nat → Nat → Int64} {len : Nat → Nat} {ρ ρ1 r1 r : zS} {τ τ1 t1 υ : zT} {μ μ1 μ2 ν : zS} {w : Int64} (hs : s < 2) (ns : NX3 c ws ρ τ) (nm : NM3 c ws μ) (pk : PKW c len 0 ρ μ) (la : LAT c ws len ρ τ μ) (c0 : c 2 = 0) (lt : c s < cap s) (no : ∀ s k, s < 3 → k < c s → ws s k ≠ w) (x1 : XA0 ρ ρ1) (y1 : ∀ q, q ≠ 25 → τ1 q = τ q) (tld : TLD c s w ρ1 r1 τ1 t1) (sx : SX T a' r υ) (sm : SM T a' ν)
    (fx : ∀ q, q ≠ 4 → q ≠ 25 → r q = r1 q) (f4 : ∀ i, i < 5 → i ≠ s → r 4 i = r1 4 i) (f4s : r 4 s = r1 4 s + 1) (ft : ∀ q, q ≠ 25 → υ q = t1 q)
    (f1 : NX0 μ μ1) (mc : MC0 (bs s + c s) μ1 μ2) (nmm : Nm μ2 (bs s + c s) w) (g : ∀ q, q ≠ 82 → q ≠ 88 → q ≠ 89 → ν q = μ2 q) (g82 : ∀ i, i ≠ 5 → i ≠ 6 → i ≠ 7 → i ≠ 8 → i ≠ 15 + s → ν 82 i = μ2 82 i) (gs : ν 82 (15 + s) = Int32.ofNat (c s + 1)) : RT T a' (lUp c s (c s + 1)) (wsAdd ws s (c s) w) len r υ ν := by
  obtain ⟨t1', t2, t3, t4, t5, t6, t7, t8, t9, t10⟩ := tld
  have c6 := cap_le s
  have s2 : 2 ≠ s := by omega
  have e4 : r1 4 = ρ 4 := by rw [t1' 4 (by decide) (by decide) (by decide) (by decide), x1.1 4 (by decide)]
  have X : ∀ q, q ≠ 4 → q ≠ 18 → q ≠ 20 → q ≠ 21 → q ≠ 25 → r q = ρ q := fun q a1 a2 a3 a4 a5 => by rw [fx q a1 a5, t1' q a2 a3 a4 a5, x1.1 q a5]
  have X4 : ∀ i, i < 5 → i ≠ s → r 4 i = ρ 4 i := fun i a b => by rw [f4 i a b, e4]
  have M : ∀ q, q ≠ 82 → q ≠ 85 → q ≠ 86 → q ≠ 88 → q ≠ 89 → ν q = μ q := fun q a1 a2 a3 a4 a5 => by rw [g q a1 a4 a5, mc.1 q a2 a3, f1.1 q a1]
  have M82 : ∀ i, i ≠ 5 → i ≠ 6 → i ≠ 7 → i ≠ 8 → i ≠ 15 + s → ν 82 i = μ 82 i := fun i a1 a2 a3 a4 a5 => by rw [g82 i a1 a2 a3 a4 a5, mc.1 82 (by decide) (by decide), f1.2 i a1 a2 a3 a4]
  have M85 : ν 85 = μ2 85 := g 85 (by decide) (by decide) (by decide)
  have M86 : ν 86 = μ2 86 := g 86 (by decide) (by decide) (by decide)
  have bl : bs s + c s < 14 := by
    unfold bs
    unfold cap at lt
    match s, hs with
    | 0, _ => simp at lt ⊢; omega
    | 1, _ => simp at lt ⊢; omega
  have nm1 := nm.of (ν := μ1) (fun i hi => f1.2 i (by omega) (by omega) (by omega) (by omega)) (fun p _ => by rw [f1.1 86 (by decide)]) (fun p _ => by rw [f1.1 85 (by decide)])
  refine ⟨sx, sm, ?_, ?_, ?_, ?_, fun t ht => by rw [lUp_ne s2, c0] at ht; exact absurd ht (Nat.not_lt_zero _)⟩
  · refine ns.tell (s := s) (by omega) lt no (by rw [f4s, e4, (ns.1 s (by omega)).2, zo_1 (by omega)]) (fun s' hs' ne => X4 s' (by omega) ne) ?_ ?_ (fun j hj => ?_) ?_ (fun j hj => ?_) ?_ (fun j hj => ?_)
    · rw [fx 18 (by decide) (by decide)]; exact t3
    · rw [fx 20 (by decide) (by decide)]; exact t4
    · rw [fx 20 (by decide) (by decide), t5 j hj, x1.1 20 (by decide)]
    · rw [fx 21 (by decide) (by decide)]; exact t6
    · rw [fx 21 (by decide) (by decide), t7 j hj, x1.1 21 (by decide)]
    · rw [ft 19 (by decide)]; exact t8
    · rw [ft 19 (by decide), t9 j hj, y1 19 (by decide)]
  · exact nm1.tell (s := s) (by omega) lt mc nmm M85 M86 gs (fun i h1 h2 h3 => by rw [M82 i (by omega) (by omega) (by omega) (by omega) h3, f1.2 i (by omega) (by omega) (by omega) (by omega)])
  · exact pk.congr (lUp_ne s2) (fun q hq => X q (by omega) (by omega) (by omega) (by omega) (by omega)) ⟨X4 3 (by decide) (by omega), X4 4 (by decide) (by omega)⟩ (by rw [X 29 (by decide) (by decide) (by decide) (by decide) (by decide)]) (fun q hq => M q (by omega) (by omega) (by omega) (by omega) (by omega)) (M82 25 (by decide) (by decide) (by decide) (by decide) (by omega))
  · refine LAT.congr (c := c) (ws := ws) ?_ (lUp_ne s2) (fun k _ => wsAdd_ne (fun q => s2 q.1))
    exact la.of (X 24 (by decide) (by decide) (by decide) (by decide) (by decide)) (by rw [ft 23 (by decide), t10 23 (by decide) (by decide), y1 23 (by decide)]) (M82 19 (by decide) (by decide) (by decide) (by decide) (by omega)) (M 87 (by decide) (by decide) (by decide) (by decide) (by decide)) (M 92 (by decide) (by decide) (by decide) (by decide) (by decide)) (M 93 (by decide) (by decide) (by decide) (by decide) (by decide)) (fun p hp => by rw [M86, mc.2.1 p (by omega), f1.1 86 (by decide)]) (fun j hj => by rw [M85, mc.2.2 j (by omega), f1.1 85 (by decide)])
theorem t_lock {T : TS} {a N N' : Nat} {c : Nat → Nat} {ws : Nat → Nat → Int64} {len : Nat → Nat} {ρ : zS} {τ : zT} {μ : zS} (rt : RT T a c ws len ρ τ μ) (c0 : c 2 = 0) (hk : T.1 a = 302) : zp (zf_Reader_tellLock N ρ τ) (fun r => ∀ {Q : Int32 × zS → Prop} (k : zS → Option (Int32 × zS)), (∀ s, OUTT T a r.1 r.2 s → zp (k s) Q) → zp (zb_M_read_136 k N' μ) Q) := by
  obtain ⟨sx, sm, ns, nm, pk, la, wr⟩ := rt
  have kk : ¬ T.1 a = 0 ∧ ¬ T.1 a = 1 := by rw [hk]; decide
  have ref : ∀ {Q : Int32 × zS → Prop} (k : zS → Option (Int32 × zS)), (∀ r23, SM T (a + 1) r23 → NX0 μ r23 → zp ((zf_M_readTold N' r23 6 (r23 82 16) 4).bind fun r24 => if (r24 82 9) = 0 then zb_M_read_180 k N' r24 ((r24 82 16) + 1) else zb_M_read_180 k N' r24 (r24 82 16)) Q) → zp (zb_M_read_136 k N' μ) Q := by
    intro Q k h
    unfold zb_M_read_136
    refine zp_bind (zp_mono (p_M_isWord sm.d (c := 3) (by decide)) fun u hu => zp_ite (fun q => ?_) fun _ => zp_bind (zp_mono (sm.nx kk) ?_))
    · rcases hu with hu | hu
      · exact absurd hk hu.2
      · rw [hu.1] at q; exact absurd q (by decide)
    · rintro ν ⟨n1, n2⟩
      exact h ν n1 n2
  unfold zf_Reader_tellLock
  refine zp_bind (zp_mono (sx.adv sm.1 kk) ?_)
  rintro r1 ⟨x1, x2, x3⟩
  have e41 : r1.1 4 1 = Int32.ofNat (c 1) := by rw [x2.1 4 (by decide)]; exact (ns.1 1 (by decide)).2
  have ns1 : NX3 c ws r1.1 r1.2 := ns.of (fun s _ => by rw [x2.1 4 (by decide)]) (by rw [x2.1 18 (by decide)]) (x2.1 20 (by decide)) (x2.1 21 (by decide)) (x3 19 (by decide))
  rw [e41]
  refine zp_bind (zp_mono (p_tell2 (N' := N') (s := 1) sm.1 x1 ns1 (by decide)) fun r2 h2 => ?_)
  have nm1 : ∀ r23, NX0 μ r23 → NM3 c ws r23 ∧ r23 82 16 = Int32.ofNat (c 1) := fun r23 f => by
    have n' := nm.of (ν := r23) (fun i hi => f.2 i (by omega) (by omega) (by omega) (by omega)) (fun p _ => by rw [f.1 86 (by decide)]) (fun p _ => by rw [f.1 85 (by decide)])
    exact ⟨n', (n' 1 (by decide)).2.1⟩
  rcases h2 with ⟨e, fl, m⟩ | ⟨e, lt, sx2, no, tld, m⟩
  · refine zp_ite (fun _ => zp_some fun k hk => ref k fun r23 s23 f23 => ?_) fun q => absurd e q
    obtain ⟨n23, e16⟩ := nm1 r23 f23
    rw [e16]
    refine zp_bind (zp_mono (m r23 s23 n23) fun r24 h24 => zp_ite (fun q => absurd q h24.1) fun _ => ?_)
    unfold zb_M_read_180
    refine zp_bind (zp_mono (p_F_take (p := T.2.1 (a + 1)) ?_) fun s hs => hk s (Or.inl ⟨_, fl, hs⟩))
    unfold MFl at h24 ⊢
    rw [zx_up_same, zu_ne (by decide), zu_ne (by decide)]
    exact h24
  · refine zp_ite (fun q => absurd (q.symm.trans e) (by decide)) fun _ => zp_bind (zp_mono (p_take0 sm.1 sx2 (x := 59) (by decide)) fun r4 h4 => ?_)
    have refok : ∀ {Q : Int32 × zS → Prop} (k : zS → Option (Int32 × zS)), (∀ r24 μ2 r23, NX0 μ r23 → MC0 (6 + c 1) r23 μ2 → Nm μ2 (6 + c 1) (T.2.2.1 (a + 1)) → NX0 μ2 r24 → ∀ s, ((T.1 (a + 2) ≠ 59 ∧ MFl s (T.2.1 (a + 2))) ∨ (T.1 (a + 2) = 59 ∧ SM T (a + 3) s ∧ NX0 (zx_up r24 82 16 (Int32.ofNat (c 1 + 1))) s)) → zp (k s) Q) → zp (zb_M_read_136 k N' μ) Q := by
      intro Q k hq
      refine ref k fun r23 s23 f23 => ?_
      obtain ⟨n23, e16⟩ := nm1 r23 f23
      rw [e16]
      refine zp_bind (zp_mono (m r23 s23 n23) ?_)
      rintro r24 ⟨s24, μ2, mc, nmm, n2⟩
      have e24 : r24 82 16 = Int32.ofNat (c 1) := by rw [n2.2 16 (by decide) (by decide) (by decide) (by decide), mc.1 82 (by decide) (by decide)]; exact e16
      have c6 := cap_le 1
      rw [e24, zo_1 (by omega)]
      unfold zb_M_read_180
      refine zp_ite (fun _ => zp_bind (zp_mono (p_M_take0 (T := T) (a := a + 2) ?_ (by decide)) fun s hs => hq r24 μ2 r23 f23 mc nmm n2 s hs)) fun q => absurd s24.2.2.2 q
      exact s24.of (zu_other (by decide)) fun i hi => by rw [zx_up_same, zu_ne (by omega)]
    rcases h4 with ⟨e4, nk, fl⟩ | ⟨e4, ek, sx4, xa, g4⟩
    · refine zp_ite (fun _ => zp_some fun k hk => refok k fun r24 μ2 r23 _ _ _ _ s hs => hk s ?_) fun q => absurd e4 q
      rcases hs with hs | hs
      · exact Or.inl ⟨_, fl, hs.2⟩
      · exact absurd hs.1 nk
    · refine zp_ite (fun q => absurd (q.symm.trans e4) (by decide)) fun _ => zp_some fun k hk => refok k fun r24 μ2 r23 f23 mc nmm n2 s hs => hk s ?_
      rcases hs with hs | ⟨_, s5, f5⟩
      · exact absurd ek hs.1
      · have c6 := cap_le 1
        refine Or.inr ⟨a + 3, lUp c 1 (c 1 + 1), wsAdd ws 1 (c 1) (T.2.2.1 (a + 1)), len, by omega, by rw [lUp_ne (by decide)]; exact c0, t_end (s := 1) (by decide) ns nm pk la c0 lt no x2 x3 tld ?_ s5 (fun q a1 a2 => ?_) (fun i hi ne => ?_) ?_ (fun q hq => g4 q hq) f23 mc nmm (fun q a1 a2 a3 => ?_) (fun i a1 a2 a3 a4 a5 => ?_) ?_⟩
        · exact SX.of sx4 (ρ' := zx_up r4.2.1 4 1 ((r4.2.1 4 1) + 1)) (zu_other (by decide)) (zu_other (by decide)) (zu_other (by decide)) (zu_other (by decide)) rfl rfl
        · dsimp only; rw [zu_other a1, xa.1 q a2]
        · dsimp only; rw [zx_up_same, zu_ne ne, xa.1 4 (by decide)]
        · dsimp only; rw [zx_up_same, zu_eq, xa.1 4 (by decide)]
        · rw [f5.1 q a1, zu_other a1, n2.1 q a1]
        · rw [f5.2 i a1 a2 a3 a4, zx_up_same, zu_ne a5, n2.2 i a1 a2 a3 a4]
        · rw [f5.2 (15 + 1) (by decide) (by decide) (by decide) (by decide), zx_up_same, zu_eq]
