-- both answer alike
set_option maxRecDepth 2000
theorem p_take0 {T : TS} {a : Nat} {ρ : zS} {τ : zT} {b : Nat → Int32} {n x : Int32} (tb : TB b n T.1 T.2.1 T.2.2.1 T.2.2.2.1 T.2.2.2.2) (h : SX T a ρ τ) (hx : ¬ x = 0 ∧ ¬ x = 1) : zp (zf_Reader_expect ρ τ x) (fun r => (r.1 = 0 ∧ T.1 a ≠ x ∧ XFl r.2.1 (T.2.1 a)) ∨ (r.1 = 1 ∧ T.1 a = x ∧ SX T (a + 1) r.2.1 r.2.2 ∧ XA0 ρ r.2.1 ∧ (∀ q, q ≠ 25 → r.2.2 q = τ q))) := by
  unfold zf_Reader_expect
  rw [h.k]
  refine zp_ite (fun d => ?_) fun d => ?_
  · refine zp_bind (zp_mono (h.adv tb (by rw [d]; exact hx)) ?_)
    rintro r ⟨r1, r2, r3⟩
    exact zp_some (Or.inr ⟨rfl, d, r1, r2, r3⟩)
  · refine zp_bind (zp_mono (p_X_fail (by decide)) ?_)
    rintro r ⟨r1, r2⟩
    rw [h.p] at r2
    exact zp_chk fun _ => zp_some (Or.inl ⟨r1, d, r2⟩)
theorem p_M_take0 {T : TS} {a N : Nat} {μ : zS} {x : Int32} (sm : SM T a μ) (hx : isSg x) : zp (zf_M_take N μ x) (fun s => (T.1 a ≠ x ∧ MFl s (T.2.1 a)) ∨ (T.1 a = x ∧ SM T (a + 1) s ∧ NX0 μ s)) := by
  unfold zf_M_take
  refine zp_ite (fun _ => zp_bind (zp_mono (p_M_isSign sm.d hx) fun r hr => zp_ite (fun z => zp_bind (zp_mono (p_M_cannot sm.2.2.2) fun s hs => zp_some (Or.inl ⟨?_, by rw [← sm.p]; exact hs⟩))) fun z => ?_)) fun q => absurd sm.2.2.2 q
  · rcases hr with hr | hr
    · exact hr.2
    · rw [hr.1] at z; exact absurd z (by decide)
  · rcases hr with hr | hr
    · exact absurd hr.1 z
    · exact zp_bind (zp_mono (sm.nx (by rw [hr.2]; constructor <;> intro q <;> rw [q] at hx <;> exact absurd hx (by decide))) fun s hs => zp_some (Or.inr ⟨hr.2, hs⟩))
theorem p_tell2 {T : TS} {b N N' s : Nat} {c : Nat → Nat} {ws : Nat → Nat → Int64} {ρ : zS} {τ : zT} {bb : Nat → Int32} {nn : Int32} (tb : TB bb nn T.1 T.2.1 T.2.2.1 T.2.2.2.1 T.2.2.2.2) (sx : SX T b ρ τ) (h : NX3 c ws ρ τ) (hs : s < 3) : zp (zf_Reader_tellName N ρ τ (Int32.ofNat s) (Int32.ofNat (c s)) (Int32.ofNat (cap s))) (fun r => (r.1 = 0 ∧ XFl r.2.1 (T.2.1 b) ∧ ∀ μ, SM T b μ → NM3 c ws μ → zp (zf_M_readTold N' μ (Int32.ofNat (bs s)) (Int32.ofNat (c s)) (Int32.ofNat (cap s))) (fun s => MFl s (T.2.1 b))) ∨ (r.1 = 1 ∧ c s < cap s ∧ SX T (b + 1) r.2.1 r.2.2 ∧ (∀ s k, s < 3 → k < c s → ws s k ≠ T.2.2.1 b) ∧ TLD c s (T.2.2.1 b) ρ r.2.1 τ r.2.2 ∧ ∀ μ, SM T b μ → NM3 c ws μ → zp (zf_M_readTold N' μ (Int32.ofNat (bs s)) (Int32.ofNat (c s)) (Int32.ofNat (cap s))) (fun ν => SM T (b + 1) ν ∧ ∃ μ2, MC0 (bs s + c s) μ μ2 ∧ Nm μ2 (bs s + c s) (T.2.2.1 b) ∧ NX0 μ2 ν))) := by
  have c6 := cap_le s
  have cc := (h.1 s hs).1
  refine zp_mono (p_tell (N' := N') tb sx h hs) fun r hr => ?_
  rcases hr with ⟨e, x, hw⟩ | ⟨e, k3, lt, sx', no, tld, m⟩
  · refine Or.inl ⟨e, x, fun μ sm nm => ?_⟩
    unfold zf_M_readTold
    have can : zp ((zf_M_cannot μ).bind fun r => some r) (fun s => MFl s (T.2.1 b)) := zp_bind (zp_mono (p_M_cannot sm.2.2.2) fun s hs => zp_some (by rw [← sm.p]; exact hs))
    have fl : ∀ k, zp ((zf_M_fail μ k).bind fun r => some r) (fun s => MFl s (T.2.1 b)) := fun k => zp_bind (zp_mono (p_M_fail sm.2.2.2) fun s hs => zp_some (by rw [← sm.p]; exact hs))
    rcases hw with k3 | ⟨k3, m⟩ | ⟨k3, full, m⟩
    · exact zp_ite (fun q => absurd (sm.d.name.mp q) k3) fun _ => can
    · refine zp_ite (fun _ => zp_bind (zp_mono (m μ sm nm) fun u hu => zp_ite (fun q => absurd (q.symm.trans hu) (by decide)) fun _ => fl 3)) fun _ => can
    · refine zp_ite (fun _ => zp_bind (zp_mono (m μ sm nm) fun u hu => zp_ite (fun _ => zp_ite (fun q => absurd (by rw [full]) q) fun _ => fl 4) fun _ => fl 3)) fun _ => can
  · refine Or.inr ⟨e, lt, sx', no, tld, fun μ sm nm => ?_⟩
    unfold zf_M_readTold
    have bl : bs s + c s < 14 := by
      have := bs_ne (c := c) (k := 0) hs hs lt cc
      unfold bs
      unfold cap at lt
      match s, hs with
      | 0, _ => simp at lt ⊢; omega
      | 1, _ => simp at lt ⊢; omega
      | 2, _ => simp at lt ⊢; omega
    have eb : Int32.ofNat (bs s) + Int32.ofNat (c s) = Int32.ofNat (bs s + c s) := zo_plus rfl (by omega)
    rw [eb]
    refine zp_ite (fun _ => zp_bind (zp_mono (m μ sm nm) fun u hu => zp_ite (fun _ => zp_ite (fun _ => zp_bind (zp_mono (p_M_call (by omega) (sm.cur k3)) ?_)) fun q => ?_) fun q => absurd hu q)) fun q => absurd (sm.d.name.mpr k3) q
    · rintro μ2 ⟨mc, nmm⟩
      have sm2 : SM T b μ2 := sm.of (mc.1 84 (by decide) (by decide)) fun i _ => by rw [mc.1 82 (by decide) (by decide)]
      refine zp_bind (zp_mono (sm2.nx (by rw [k3]; decide)) ?_)
      rintro ν ⟨n1, n2⟩
      exact zp_some ⟨n1, μ2, mc, nmm, n2⟩
    · exfalso
      have := zo_inj (k := c s) (j := cap s) (by omega) (by omega) (Classical.not_not.mp q)
      omega
def RT (T : TS) (a : Nat) (c : Nat → Nat) (ws : Nat → Nat → Int64) (len : Nat → Nat) (ρ : zS) (τ : zT) (μ : zS) : Prop :=
  SX T a ρ τ ∧ SM T a μ ∧ NX3 c ws ρ τ ∧ NM3 c ws μ ∧ PKW c len 0 ρ μ ∧ LAT c ws len ρ τ μ
def OUTT (T : TS) (a : Nat) (ρ : zS) (τ : zT) (μ : zS) : Prop :=
  (∃ p, XFl ρ p ∧ MFl μ p) ∨ (∃ a' c ws len, a < a' ∧ c 2 = 0 ∧ RT T a' c ws len ρ τ μ)
theorem PKW.congr {c c' len : Nat → Nat} {ρ μ r ν : zS} (h : PKW c len 0 ρ μ) (e : c' 2 = c 2) (g : ∀ q, q = 5 ∨ q = 7 → r q = ρ q) (g4 : r 4 3 = ρ 4 3 ∧ r 4 4 = ρ 4 4) (g29 : r 29 6 = ρ 29 6) (gm : ∀ q, q = 90 ∨ q = 92 → ν q = μ q) (g2 : ν 82 25 = μ 82 25) : PKW c' len 0 r ν := by
  obtain ⟨p1, p2, p3, p4, p5, p6, p7⟩ := h
  unfold PKW
  rw [e, g 5 (by decide), g 7 (by decide), g4.1, g4.2, g29, gm 90 (by decide), gm 92 (by decide), g2]
  exact ⟨p1, p2, p3, p4, p5, fun q => absurd q (Nat.lt_irrefl _), p7⟩
theorem LAT.congr {c c' : Nat → Nat} {ws ws' : Nat → Nat → Int64} {len : Nat → Nat} {ρ : zS} {τ : zT} {μ : zS} (h : LAT c ws len ρ τ μ) (e : c' 2 = c 2) (ew : ∀ k, k < c 2 → ws' 2 k = ws 2 k) : LAT c' ws' len ρ τ μ := by
  obtain ⟨nz, wz, SL, h1, h2, h3, h4, h5⟩ := h
  have A : ∀ q, SJ c' len μ q ↔ SJ c len μ q := fun q => by unfold SJ; rw [e]
  refine ⟨nz, wz, SL, h1, h2, fun l hl => ⟨(h3 l hl).1, (A _).mpr (h3 l hl).2.1, (h3 l hl).2.2⟩, h4, fun q hq => ?_⟩
  rcases h5 q ((A q).mp hq) with ⟨k, k1, k2, k3⟩ | h
  · exact Or.inl ⟨k, by rw [e]; exact k1, k2, by rw [ew k k1]; exact k3⟩
  · exact Or.inr h
theorem t_end {T : TS} {a' s : Nat} {c : Nat → Nat} {ws : Nat → Nat → Int64} {len : Nat → Nat} {ρ ρ1 r1 r : zS} {τ τ1 t1 υ : zT} {μ μ1 μ2 ν : zS} {w : Int64} (hs : s < 2) (ns : NX3 c ws ρ τ) (nm : NM3 c ws μ) (pk : PKW c len 0 ρ μ) (la : LAT c ws len ρ τ μ) (lt : c s < cap s) (no : ∀ s k, s < 3 → k < c s → ws s k ≠ w) (x1 : XA0 ρ ρ1) (y1 : ∀ q, q ≠ 25 → τ1 q = τ q) (tld : TLD c s w ρ1 r1 τ1 t1) (sx : SX T a' r υ) (sm : SM T a' ν)
    (fx : ∀ q, q ≠ 4 → q ≠ 25 → r q = r1 q) (f4 : ∀ i, i < 5 → i ≠ s → r 4 i = r1 4 i) (f4s : r 4 s = r1 4 s + 1) (ft : ∀ q, q ≠ 25 → υ q = t1 q)
    (f1 : NX0 μ μ1) (mc : MC0 (bs s + c s) μ1 μ2) (nmm : Nm μ2 (bs s + c s) w) (g : ∀ q, q ≠ 82 → q ≠ 88 → q ≠ 89 → ν q = μ2 q) (g82 : ∀ i, i ≠ 5 → i ≠ 6 → i ≠ 7 → i ≠ 8 → i ≠ 15 + s → ν 82 i = μ2 82 i) (gs : ν 82 (15 + s) = Int32.ofNat (c s + 1)) : RT T a' (lUp c s (c s + 1)) (wsAdd ws s (c s) w) len r υ ν := by
  obtain ⟨t1', t2, t3, t4, t5, t6, t7, t8, t9, t10⟩ := tld
  have c6 := cap_le s
  have s2 : 2 ≠ s := by omega
  have e4 : r1 4 = ρ 4 := by rw [t1' 4 (by decide) (by decide) (by decide) (by decide), x1.1 4 (by decide)]
  have X : ∀ q, q ≠ 4 → q ≠ 18 → q ≠ 20 → q ≠ 21 → q ≠ 25 → r q = ρ q := fun q a1 a2 a3 a4 a5 => by rw [fx q a1 a5, t1' q a2 a3 a4 a5, x1.1 q a5]
  have X4 : ∀ i, i < 5 → i ≠ s → r 4 i = ρ 4 i := fun i a b => by rw [f4 i a b, e4]
  have M : ∀ q, q ≠ 82 → q ≠ 85 → q ≠ 86 → q ≠ 88 → q ≠ 89 → ν q = μ q := fun q a1 a2 a3 a4 a5 => by rw [g q a1 a4 a5, mc.1 q a2 a3, f1.1 q a1]
  have M82 : ∀ i, i ≠ 5 → i ≠ 6 → i ≠ 7 → i ≠ 8 → i ≠ 15 + s → ν 82 i = μ 82 i := fun i a1 a2 a3 a4 a5 => by rw [g82 i a1 a2 a3 a4 a5, mc.1 82 (by decide) (by decide), f1.2 i a1 a2 a3 a4]
  have M85 : ν 85 = μ2 85 := g 85 (by decide) (by decide) (by decide)
  have M86 : ν 86 = μ2 86 := g 86 (by decide) (by decide) (by decide)
  have bl : bs s + c s < 14 := by
    unfold bs
    unfold cap at lt
    match s, hs with
    | 0, _ => simp at lt ⊢; omega
    | 1, _ => simp at lt ⊢; omega
  have nm1 := nm.of (ν := μ1) (fun i hi => f1.2 i (by omega) (by omega) (by omega) (by omega)) (fun p _ => by rw [f1.1 86 (by decide)]) (fun p _ => by rw [f1.1 85 (by decide)])
  refine ⟨sx, sm, ?_, ?_, ?_, ?_⟩
  · refine ns.tell (s := s) (by omega) lt no (by rw [f4s, e4, (ns.1 s (by omega)).2, zo_1 (by omega)]) (fun s' hs' ne => X4 s' (by omega) ne) ?_ ?_ (fun j hj => ?_) ?_ (fun j hj => ?_) ?_ (fun j hj => ?_)
    · rw [fx 18 (by decide) (by decide)]; exact t3
    · rw [fx 20 (by decide) (by decide)]; exact t4
    · rw [fx 20 (by decide) (by decide), t5 j hj, x1.1 20 (by decide)]
    · rw [fx 21 (by decide) (by decide)]; exact t6
    · rw [fx 21 (by decide) (by decide), t7 j hj, x1.1 21 (by decide)]
    · rw [ft 19 (by decide)]; exact t8
    · rw [ft 19 (by decide), t9 j hj, y1 19 (by decide)]
  · exact nm1.tell (s := s) (by omega) lt mc nmm M85 M86 gs (fun i h1 h2 h3 => by rw [M82 i (by omega) (by omega) (by omega) (by omega) h3, f1.2 i (by omega) (by omega) (by omega) (by omega)])
  · exact pk.congr (lUp_ne s2) (fun q hq => X q (by omega) (by omega) (by omega) (by omega) (by omega)) ⟨X4 3 (by decide) (by omega), X4 4 (by decide) (by omega)⟩ (by rw [X 29 (by decide) (by decide) (by decide) (by decide) (by decide)]) (fun q hq => M q (by omega) (by omega) (by omega) (by omega) (by omega)) (M82 25 (by decide) (by decide) (by decide) (by decide) (by omega))
  · refine LAT.congr (c := c) (ws := ws) ?_ (lUp_ne s2) (fun k _ => wsAdd_ne (fun q => s2 q.1))
    exact la.of (X 24 (by decide) (by decide) (by decide) (by decide) (by decide)) (by rw [ft 23 (by decide), t10 23 (by decide) (by decide), y1 23 (by decide)]) (M82 19 (by decide) (by decide) (by decide) (by decide) (by omega)) (M 87 (by decide) (by decide) (by decide) (by decide) (by decide)) (M 92 (by decide) (by decide) (by decide) (by decide) (by decide)) (M 93 (by decide) (by decide) (by decide) (by decide) (by decide)) (fun p hp => by rw [M86, mc.2.1 p (by omega), f1.1 86 (by decide)]) (fun j hj => by rw [M85, mc.2.2 j (by omega), f1.1 85 (by decide)])
theorem t_lock {T : TS} {a N N' : Nat} {c : Nat → Nat} {ws : Nat → Nat → Int64} {len : Nat → Nat} {ρ : zS} {τ : zT} {μ : zS} (rt : RT T a c ws len ρ τ μ) (c0 : c 2 = 0) (hk : T.1 a = 302) : zp (zf_Reader_tellLock N ρ τ) (fun r => ∀ {Q : Int32 × zS → Prop} (k : zS → Option (Int32 × zS)), (∀ s, OUTT T a r.1 r.2 s → zp (k s) Q) → zp (zb_M_read_136 k N' μ) Q) := by
  obtain ⟨sx, sm, ns, nm, pk, la⟩ := rt
  have kk : ¬ T.1 a = 0 ∧ ¬ T.1 a = 1 := by rw [hk]; decide
  have ref : ∀ {Q : Int32 × zS → Prop} (k : zS → Option (Int32 × zS)), (∀ r23, SM T (a + 1) r23 → NX0 μ r23 → zp ((zf_M_readTold N' r23 6 (r23 82 16) 4).bind fun r24 => if (r24 82 9) = 0 then zb_M_read_180 k N' r24 ((r24 82 16) + 1) else zb_M_read_180 k N' r24 (r24 82 16)) Q) → zp (zb_M_read_136 k N' μ) Q := by
    intro Q k h
    unfold zb_M_read_136
    refine zp_bind (zp_mono (p_M_isWord sm.d (c := 3) (by decide)) fun u hu => zp_ite (fun q => ?_) fun _ => zp_bind (zp_mono (sm.nx kk) ?_))
    · rcases hu with hu | hu
      · exact absurd hk hu.2
      · rw [hu.1] at q; exact absurd q (by decide)
    · rintro ν ⟨n1, n2⟩
      exact h ν n1 n2
  unfold zf_Reader_tellLock
  refine zp_bind (zp_mono (sx.adv sm.1 kk) ?_)
  rintro r1 ⟨x1, x2, x3⟩
  have e41 : r1.1 4 1 = Int32.ofNat (c 1) := by rw [x2.1 4 (by decide)]; exact (ns.1 1 (by decide)).2
  have ns1 : NX3 c ws r1.1 r1.2 := ns.of (fun s _ => by rw [x2.1 4 (by decide)]) (by rw [x2.1 18 (by decide)]) (x2.1 20 (by decide)) (x2.1 21 (by decide)) (x3 19 (by decide))
  rw [e41]
  refine zp_bind (zp_mono (p_tell2 (N' := N') (s := 1) sm.1 x1 ns1 (by decide)) fun r2 h2 => ?_)
  have nm1 : ∀ r23, NX0 μ r23 → NM3 c ws r23 ∧ r23 82 16 = Int32.ofNat (c 1) := fun r23 f => by
    have n' := nm.of (ν := r23) (fun i hi => f.2 i (by omega) (by omega) (by omega) (by omega)) (fun p _ => by rw [f.1 86 (by decide)]) (fun p _ => by rw [f.1 85 (by decide)])
    exact ⟨n', (n' 1 (by decide)).2.1⟩
  rcases h2 with ⟨e, fl, m⟩ | ⟨e, lt, sx2, no, tld, m⟩
  · refine zp_ite (fun _ => zp_some fun k hk => ref k fun r23 s23 f23 => ?_) fun q => absurd e q
    obtain ⟨n23, e16⟩ := nm1 r23 f23
    rw [e16]
    refine zp_bind (zp_mono (m r23 s23 n23) fun r24 h24 => zp_ite (fun q => absurd q h24.1) fun _ => ?_)
    unfold zb_M_read_180
    refine zp_bind (zp_mono (p_F_take (p := T.2.1 (a + 1)) ?_) fun s hs => hk s (Or.inl ⟨_, fl, hs⟩))
    unfold MFl at h24 ⊢
    rw [zx_up_same, zu_ne (by decide), zu_ne (by decide)]
    exact h24
  · refine zp_ite (fun q => absurd (q.symm.trans e) (by decide)) fun _ => zp_bind (zp_mono (p_take0 sm.1 sx2 (x := 59) (by decide)) fun r4 h4 => ?_)
    have refok : ∀ {Q : Int32 × zS → Prop} (k : zS → Option (Int32 × zS)), (∀ r24 μ2 r23, NX0 μ r23 → MC0 (6 + c 1) r23 μ2 → Nm μ2 (6 + c 1) (T.2.2.1 (a + 1)) → NX0 μ2 r24 → ∀ s, ((T.1 (a + 2) ≠ 59 ∧ MFl s (T.2.1 (a + 2))) ∨ (T.1 (a + 2) = 59 ∧ SM T (a + 3) s ∧ NX0 (zx_up r24 82 16 (Int32.ofNat (c 1 + 1))) s)) → zp (k s) Q) → zp (zb_M_read_136 k N' μ) Q := by
      intro Q k hq
      refine ref k fun r23 s23 f23 => ?_
      obtain ⟨n23, e16⟩ := nm1 r23 f23
      rw [e16]
      refine zp_bind (zp_mono (m r23 s23 n23) ?_)
      rintro r24 ⟨s24, μ2, mc, nmm, n2⟩
      have e24 : r24 82 16 = Int32.ofNat (c 1) := by rw [n2.2 16 (by decide) (by decide) (by decide) (by decide), mc.1 82 (by decide) (by decide)]; exact e16
      have c6 := cap_le 1
      rw [e24, zo_1 (by omega)]
      unfold zb_M_read_180
      refine zp_ite (fun _ => zp_bind (zp_mono (p_M_take0 (T := T) (a := a + 2) ?_ (by decide)) fun s hs => hq r24 μ2 r23 f23 mc nmm n2 s hs)) fun q => absurd s24.2.2.2 q
      exact s24.of (zu_other (by decide)) fun i hi => by rw [zx_up_same, zu_ne (by omega)]
    rcases h4 with ⟨e4, nk, fl⟩ | ⟨e4, ek, sx4, xa, g4⟩
    · refine zp_ite (fun _ => zp_some fun k hk => refok k fun r24 μ2 r23 _ _ _ _ s hs => hk s ?_) fun q => absurd e4 q
      rcases hs with hs | hs
      · exact Or.inl ⟨_, fl, hs.2⟩
      · exact absurd hs.1 nk
    · refine zp_ite (fun q => absurd (q.symm.trans e4) (by decide)) fun _ => zp_some fun k hk => refok k fun r24 μ2 r23 f23 mc nmm n2 s hs => hk s ?_
      rcases hs with hs | ⟨_, s5, f5⟩
      · exact absurd ek hs.1
      · have c6 := cap_le 1
        refine Or.inr ⟨a + 3, lUp c 1 (c 1 + 1), wsAdd ws 1 (c 1) (T.2.2.1 (a + 1)), len, by omega, by rw [lUp_ne (by decide)]; exact c0, t_end (s := 1) (by decide) ns nm pk la lt no x2 x3 tld ?_ s5 (fun q a1 a2 => ?_) (fun i hi ne => ?_) ?_ (fun q hq => g4 q hq) f23 mc nmm (fun q a1 a2 a3 => ?_) (fun i a1 a2 a3 a4 a5 => ?_) ?_⟩
        · exact SX.of sx4 (ρ' := zx_up r4.2.1 4 1 ((r4.2.1 4 1) + 1)) (zu_other (by decide)) (zu_other (by decide)) (zu_other (by decide)) (zu_other (by decide)) rfl rfl
        · dsimp only; rw [zu_other a1, xa.1 q a2]
        · dsimp only; rw [zx_up_same, zu_ne ne, xa.1 4 (by decide)]
        · dsimp only; rw [zx_up_same, zu_eq, xa.1 4 (by decide)]
        · rw [f5.1 q a1, zu_other a1, n2.1 q a1]
        · rw [f5.2 i a1 a2 a3 a4, zx_up_same, zu_ne a5, n2.2 i a1 a2 a3 a4]
        · rw [f5.2 (15 + 1) (by decide) (by decide) (by decide) (by decide), zx_up_same, zu_eq]
theorem p_X_addField {ρ : zS} {x y : Int32} : zp (zf_Program_addField ρ x y) (fun r => (∀ q, q ≠ 4 → r q = ρ q) ∧ (∀ i, i ≠ 0 → i ≠ 5 → i ≠ 6 → r 4 i = ρ 4 i) ∧ r 4 0 = ρ 4 0 + 1) := by
  unfold zf_Program_addField zb_Program_addField_36
  refine zp_ite (fun _ => zp_some ⟨fun q a => ?_, fun i a b c => ?_, ?_⟩) fun _ => zp_some ⟨fun q a => ?_, fun i a b c => ?_, ?_⟩
  · rw [zu_other a, zu_other a]
  · rw [zx_up_same, zu_ne a, zx_up_same, zu_ne b]
  · rw [zx_up_same, zu_eq, zx_up_same, zu_ne (by decide)]
  · rw [zu_other a, zu_other a, zu_other a]
  · rw [zx_up_same, zu_ne a, zx_up_same, zu_ne c, zx_up_same, zu_ne b]
  · rw [zx_up_same, zu_eq, zx_up_same, zu_ne (by decide), zx_up_same, zu_ne (by decide)]
theorem t_field {T : TS} {a N N' : Nat} {c : Nat → Nat} {ws : Nat → Nat → Int64} {len : Nat → Nat} {ρ : zS} {τ : zT} {μ : zS} {o x : Int32} (rt : RT T a c ws len ρ τ μ) (c0 : c 2 = 0) (kk : ¬ T.1 a = 0 ∧ ¬ T.1 a = 1) : zp (zf_Reader_tellField N ρ τ o) (fun r => zp (zf_M_readField N' μ x) (fun s => OUTT T a r.1 r.2 s)) := by
  obtain ⟨sx, sm, ns, nm, pk, la⟩ := rt
  unfold zf_Reader_tellField
  refine zp_bind (zp_mono (sx.adv sm.1 kk) ?_)
  rintro r1 ⟨x1, x2, x3⟩
  have e40 : r1.1 4 0 = Int32.ofNat (c 0) := by rw [x2.1 4 (by decide)]; exact (ns.1 0 (by decide)).2
  have ns1 : NX3 c ws r1.1 r1.2 := ns.of (fun s _ => by rw [x2.1 4 (by decide)]) (by rw [x2.1 18 (by decide)]) (x2.1 20 (by decide)) (x2.1 21 (by decide)) (x3 19 (by decide))
  rw [e40]
  refine zp_bind (zp_mono (p_tell2 (N' := N') (s := 0) sm.1 x1 ns1 (by decide)) fun r2 h2 => ?_)
  have nm1 : ∀ r23, NX0 μ r23 → NM3 c ws r23 ∧ r23 82 15 = Int32.ofNat (c 0) := fun r23 f => by
    have n' := nm.of (ν := r23) (fun i hi => f.2 i (by omega) (by omega) (by omega) (by omega)) (fun p _ => by rw [f.1 86 (by decide)]) (fun p _ => by rw [f.1 85 (by decide)])
    exact ⟨n', (n' 0 (by decide)).2.1⟩
  rcases h2 with ⟨e, fl, m⟩ | ⟨e, lt, sx2, no, tld, m⟩
  · refine zp_ite (fun q => absurd e q) fun _ => zp_some ?_
    unfold zf_M_readField
    refine zp_bind (zp_mono (sm.nx kk) ?_)
    rintro r23 ⟨s23, f23⟩
    obtain ⟨n23, e15⟩ := nm1 r23 f23
    rw [e15]
    exact zp_bind (zp_mono (m r23 s23 n23) fun r24 h24 => zp_ite (fun q => absurd q h24.1) fun _ => zp_some (Or.inl ⟨_, fl, h24⟩))
  · have c6 := cap_le 0
    have ref : ∀ {Q : zS → Prop}, ((T.1 (a + 2) ≠ 61 → ∀ μ1 μ2 ν, NX0 μ μ1 → MC0 (bs 0 + c 0) μ1 μ2 → Nm μ2 (bs 0 + c 0) (T.2.2.1 (a + 1)) → SM T (a + 2) ν → (∀ q, q ≠ 82 → q ≠ 88 → q ≠ 89 → ν q = μ2 q) → (∀ i, i ≠ 5 → i ≠ 6 → i ≠ 7 → i ≠ 8 → ν 82 i = μ2 82 i) → zp (zb_M_readField_86 N' ν) Q) ∧ (T.1 (a + 2) = 61 → (T.1 (a + 3) ≠ 2 → ∀ s, MFl s (T.2.1 (a + 3)) → Q s) ∧ (T.1 (a + 3) = 2 → ∀ μ1 μ2 ν, NX0 μ μ1 → MC0 (bs 0 + c 0) μ1 μ2 → Nm μ2 (bs 0 + c 0) (T.2.2.1 (a + 1)) → SM T (a + 4) ν → (∀ q, q ≠ 82 → q ≠ 88 → q ≠ 89 → ν q = μ2 q) → (∀ i, i ≠ 5 → i ≠ 6 → i ≠ 7 → i ≠ 8 → ν 82 i = μ2 82 i) → zp (zb_M_readField_86 N' ν) Q))) → zp (zf_M_readField N' μ x) Q := by
      rintro Q ⟨kA, kB⟩
      unfold zf_M_readField
      refine zp_bind (zp_mono (sm.nx kk) ?_)
      rintro r23 ⟨s23, f23⟩
      obtain ⟨n23, e15⟩ := nm1 r23 f23
      rw [e15]
      refine zp_bind (zp_mono (m r23 s23 n23) ?_)
      rintro r24 ⟨s24, μ2, mc, nmm, n2⟩
      refine zp_ite (fun _ => zp_chk fun _ => zp_chk fun _ => ?_) fun q => absurd s24.2.2.2 q
      have sw := (s24.up (q := 88) (i := (r24 82 15).toNatClampNeg) (x := x &&& 1) (by decide)).up (q := 89) (i := (r24 82 15).toNatClampNeg) (x := 0) (by decide)
      have gw : ∀ q, q ≠ 82 → q ≠ 88 → q ≠ 89 → (zx_up (zx_up r24 88 (r24 82 15).toNatClampNeg (x &&& 1)) 89 (r24 82 15).toNatClampNeg 0) q = μ2 q := fun q a1 a2 a3 => by rw [zu_other a3, zu_other a2, n2.1 q a1]
      have g82 : ∀ i, i ≠ 5 → i ≠ 6 → i ≠ 7 → i ≠ 8 → (zx_up (zx_up r24 88 (r24 82 15).toNatClampNeg (x &&& 1)) 89 (r24 82 15).toNatClampNeg 0) 82 i = μ2 82 i := fun i a1 a2 a3 a4 => by rw [zu_other (by decide), zu_other (by decide), n2.2 i a1 a2 a3 a4]
      refine zp_bind (zp_mono (p_M_isSign sw.d (c := 61) (by decide)) fun r6 h6 => zp_ite (fun z => ?_) fun z => ?_)
      · refine kA ?_ r23 μ2 _ f23 mc nmm sw gw g82
        rcases h6 with h | h
        · exact h.2
        · rw [h.1] at z; exact absurd z (by decide)
      · have k61 : T.1 (a + 2) = 61 := by
          rcases h6 with h | h
          · exact absurd h.1 z
          · exact h.2
        refine zp_bind (zp_mono (sw.nx (by rw [k61]; decide)) ?_)
        rintro r9 ⟨s9, f9⟩
        have sw9 := s9.up (q := 89) (i := (r9 82 15).toNatClampNeg) (x := r9 82 8) (by decide)
        refine zp_chk fun _ => zp_ite (fun y => ?_) fun y => ?_
        · have k2 : T.1 (a + 3) = 2 := s9.d.num.mp y
          refine zp_bind (zp_mono (sw9.nx (by rw [k2]; decide)) ?_)
          rintro r12 ⟨s12, f12⟩
          refine (kB k61).2 k2 r23 μ2 r12 f23 mc nmm s12 (fun q a1 a2 a3 => ?_) (fun i a1 a2 a3 a4 => ?_)
          · rw [f12.1 q a1, zu_other a3, f9.1 q a1, gw q a1 a2 a3]
          · rw [f12.2 i a1 a2 a3 a4, zu_other (by decide), f9.2 i a1 a2 a3 a4, g82 i a1 a2 a3 a4]
        · have k2 : T.1 (a + 3) ≠ 2 := fun q => y (s9.d.num.mpr q)
          refine zp_bind (zp_mono (p_M_cannot sw9.2.2.2) fun s hs => zp_some ((kB k61).1 k2 s ?_))
          rw [sw9.p] at hs
          exact hs
    have fin : ∀ (e : Nat) (ρ5 : zS) (τ5 : zT) (v : Int32), a < e → SX T e ρ5 τ5 → (∀ q, q ≠ 25 → ρ5 q = r2.2.1 q) → (∀ q, q ≠ 25 → τ5 q = r2.2.2 q) → zp (zb_Reader_tellField_64 N ρ5 τ5 o v) (fun r => ∀ μ1 μ2 ν, NX0 μ μ1 → MC0 (bs 0 + c 0) μ1 μ2 → Nm μ2 (bs 0 + c 0) (T.2.2.1 (a + 1)) → SM T e ν → (∀ q, q ≠ 82 → q ≠ 88 → q ≠ 89 → ν q = μ2 q) → (∀ i, i ≠ 5 → i ≠ 6 → i ≠ 7 → i ≠ 8 → ν 82 i = μ2 82 i) → zp (zb_M_readField_86 N' ν) (fun s => OUTT T a r.1 r.2 s)) := by
      intro e ρ5 τ5 v ae sx5 fr ft
      have e82 : ∀ μ1 μ2 ν : zS, NX0 μ μ1 → MC0 (bs 0 + c 0) μ1 μ2 → (∀ i, i ≠ 5 → i ≠ 6 → i ≠ 7 → i ≠ 8 → ν 82 i = μ2 82 i) → ν 82 15 = Int32.ofNat (c 0) := fun μ1 μ2 ν f mc g => by rw [g 15 (by decide) (by decide) (by decide) (by decide), mc.1 82 (by decide) (by decide)]; exact (nm1 μ1 f).2
      have smi : ∀ ν : zS, SM T e ν → SM T e (zx_up ν 82 15 (Int32.ofNat (c 0 + 1))) := fun ν s => s.of (zu_other (by decide)) fun i hi => by rw [zx_up_same, zu_ne (by omega)]
      unfold zb_Reader_tellField_64 zb_M_readField_86
      refine zp_bind (zp_mono (p_take0 sm.1 sx5 (x := 59) (by decide)) fun r4 h4 => ?_)
      rcases h4 with ⟨e4, nk, fl⟩ | ⟨e4, ek, sx4, xa, g4⟩
      · refine zp_ite (fun _ => zp_some fun μ1 μ2 ν f1 mc nmm s g g82 => ?_) fun q => absurd e4 q
        rw [e82 μ1 μ2 ν f1 mc g82, zo_1 (by omega)]
        refine zp_bind (zp_mono (p_M_take0 (smi ν s) (by decide)) fun u hu => zp_some (Or.inl ⟨_, fl, ?_⟩))
        rcases hu with hu | hu
        · exact hu.2
        · exact absurd hu.1 nk
      · refine zp_ite (fun q => absurd (q.symm.trans e4) (by decide)) fun _ => zp_bind (zp_mono p_X_addField ?_)
        rintro r7 ⟨y1, y2, y3⟩
        refine zp_some fun μ1 μ2 ν f1 mc nmm s g g82 => ?_
        rw [e82 μ1 μ2 ν f1 mc g82, zo_1 (by omega)]
        refine zp_bind (zp_mono (p_M_take0 (smi ν s) (by decide)) fun u hu => zp_some ?_)
        rcases hu with hu | ⟨_, s5, f5⟩
        · exact absurd ek hu.1
        · refine Or.inr ⟨e + 1, lUp c 0 (c 0 + 1), wsAdd ws 0 (c 0) (T.2.2.1 (a + 1)), len, by omega, by rw [lUp_ne (by decide)]; exact c0, t_end (s := 0) (by decide) ns nm pk la lt no x2 x3 tld ?_ s5 (fun q a1 a2 => ?_) (fun i hi ne => ?_) ?_ (fun q hq => ?_) f1 mc nmm (fun q a1 a2 a3 => ?_) (fun i a1 a2 a3 a4 a5 => ?_) ?_⟩
          · exact SX.of sx4 (ρ' := r7) (y1 17 (by decide)) (y1 25 (by decide)) (y1 26 (by decide)) (y1 27 (by decide)) rfl rfl
          · dsimp only; rw [y1 q a1, xa.1 q a2, fr q a2]
          · dsimp only; rw [y2 i ne (by omega) (by omega), xa.1 4 (by decide), fr 4 (by decide)]
          · dsimp only; rw [y3, xa.1 4 (by decide), fr 4 (by decide)]
          · dsimp only; rw [g4 q hq, ft q hq]
          · rw [f5.1 q a1, zu_other a1, g q a1 a2 a3]
          · rw [f5.2 i a1 a2 a3 a4, zx_up_same, zu_ne a5, g82 i a1 a2 a3 a4]
          · rw [f5.2 (15 + 0) (by decide) (by decide) (by decide) (by decide), zx_up_same, zu_eq]
    refine zp_ite (fun _ => ?_) fun q => absurd (by rw [e]; decide) q
    rw [sx2.k]
    refine zp_ite (fun z => ?_) fun z => ?_
    · refine zp_mono (fin (a + 2) _ _ _ (by omega) sx2 (fun _ _ => rfl) (fun _ _ => rfl)) fun r hr => ref ⟨fun _ μ1 μ2 ν f1 mc nmm s g g82 => hr μ1 μ2 ν f1 mc nmm s g g82, fun q => absurd q z⟩
    · have k61 : T.1 (a + 2) = 61 := Classical.not_not.mp z
      have kk2 : ¬ T.1 (a + 1 + 1) = 0 ∧ ¬ T.1 (a + 1 + 1) = 1 := by rw [k61]; decide
      refine zp_bind (zp_mono (sx2.adv sm.1 kk2) ?_)
      rintro r8 ⟨z1, z2, z3⟩
      refine zp_bind (zp_mono (p_take0 sm.1 z1 (x := 2) (by decide)) fun r9 h9 => ?_)
      rcases h9 with ⟨e9, nk, fl⟩ | ⟨e9, ek, sx9, xa9, g9⟩
      · refine zp_ite (fun q => absurd e9 q) fun _ => zp_some (ref ⟨fun q => absurd k61 q, fun _ => ⟨fun _ s hs => Or.inl ⟨_, fl, hs⟩, fun q => absurd q nk⟩⟩)
      · refine zp_ite (fun _ => ?_) fun q => absurd (by rw [e9]; decide) q
        refine zp_mono (fin (a + 4) _ _ _ (by omega) sx9 (fun q hq => by rw [xa9.1 q hq, z2.1 q hq]) (fun q hq => by rw [g9 q hq, z3 q hq])) fun r hr => ref ⟨fun q => absurd k61 q, fun _ => ⟨fun q => absurd ek q, fun _ μ1 μ2 ν f1 mc nmm s g g82 => hr μ1 μ2 ν f1 mc nmm s g g82⟩⟩
theorem p_F_118 {N n : Nat} {μ : zS} {p : Int32} {Q : zS → Prop} (h : MFl μ p) (q : Q μ) : zp (zb_M_readThread_118 N n μ) Q := by
  cases n with
  | zero => exact zp_none
  | succ n =>
    rw [zb_M_readThread_118]
    unfold zb_M_readThread_155
    exact zp_ite (fun _ => zp_ite (fun e => absurd e h.1) fun _ => zp_some q) fun e => absurd (Classical.not_not.mp e) h.1
theorem t_thread {T : TS} {a N N' : Nat} {c : Nat → Nat} {ws : Nat → Nat → Int64} {len : Nat → Nat} {ρ : zS} {τ : zT} {μ : zS} (rt : RT T a c ws len ρ τ μ) (hk : T.1 a = 303) : zp (zf_Reader_tellThread N ρ τ) (fun r => ∀ {Q : zS → Prop}, (∀ s p, XFl r.1 p → MFl s p → Q s) → (∀ s a' c' ws' len', a < a' → RLX T a' c' ws' 0 (fun _ => 0) len' 1 r.1 r.2 s → zp (zb_M_readThread_118 N' N' s) Q) → zp (zf_M_readThread N' μ) Q) := by
  obtain ⟨sx, sm, ns, nm, pk, la⟩ := rt
  have kk : ¬ T.1 a = 0 ∧ ¬ T.1 a = 1 := by rw [hk]; decide
  unfold zf_Reader_tellThread
  refine zp_bind (zp_mono (sx.adv sm.1 kk) ?_)
  rintro r1 ⟨x1, x2, x3⟩
  have e42 : r1.1 4 2 = Int32.ofNat (c 2) := by rw [x2.1 4 (by decide)]; exact (ns.1 2 (by decide)).2
  have c24 : c 2 ≤ 4 := (ns.1 2 (by decide)).1
  have ns1 : NX3 c ws r1.1 r1.2 := ns.of (fun s _ => by rw [x2.1 4 (by decide)]) (by rw [x2.1 18 (by decide)]) (x2.1 20 (by decide)) (x2.1 21 (by decide)) (x3 19 (by decide))
  rw [e42]
  refine zp_bind (zp_mono (p_tell (N' := N') (s := 2) sm.1 x1 ns1 (by decide)) fun r2 h2 => ?_)
  have nm1 : ∀ r23, NX0 μ r23 → NM3 c ws r23 ∧ r23 82 17 = Int32.ofNat (c 2) := fun r23 f => by
    have n' := nm.of (ν := r23) (fun i hi => f.2 i (by omega) (by omega) (by omega) (by omega)) (fun p _ => by rw [f.1 86 (by decide)]) (fun p _ => by rw [f.1 85 (by decide)])
    exact ⟨n', (n' 2 (by decide)).2.1⟩
  rcases h2 with ⟨e, fl, hw⟩ | ⟨e, k3, lt, sx2, no, tld, m⟩
  · refine zp_ite (fun _ => zp_some fun {Q} kA kB => ?_) fun q => absurd e q
    unfold zf_M_readThread
    refine zp_bind (zp_mono (sm.nx kk) ?_)
    rintro r23 ⟨s23, f23⟩
    obtain ⟨n23, e17⟩ := nm1 r23 f23
    have can : zp ((zf_M_cannot r23).bind fun r => some r) Q := zp_bind (zp_mono (p_M_cannot s23.2.2.2) fun s hs => zp_some (kA s _ fl (by rw [← s23.p]; exact hs)))
    have flm : ∀ k, zp ((zf_M_fail r23 k).bind fun r => some r) Q := fun k => zp_bind (zp_mono (p_M_fail s23.2.2.2) fun s hs => zp_some (kA s _ fl (by rw [← s23.p]; exact hs)))
    rcases hw with k3 | ⟨k3, m⟩ | ⟨k3, full, m⟩
    · exact zp_ite (fun q => absurd (s23.d.name.mp q) k3) fun _ => can
    · exact zp_ite (fun _ => zp_bind (zp_mono (m r23 s23 n23) fun u hu => zp_ite (fun q => absurd (q.symm.trans hu) (by decide)) fun _ => flm 3)) fun _ => can
    · exact zp_ite (fun _ => zp_bind (zp_mono (m r23 s23 n23) fun u hu => zp_ite (fun _ => zp_ite (fun q => absurd (by rw [e17, full]; rfl) q) fun _ => flm 4) fun _ => flm 3)) fun _ => can
  · have lt4 : c 2 < 4 := lt
    refine zp_ite (fun q => absurd (q.symm.trans e) (by decide)) fun _ => ?_
    unfold zf_Names_forgetLocals zf_Weaver_beginThread
    refine zp_bind (zp_some (zp_bind (zp_some ?_)))
    obtain ⟨t1, t2, t3, t4, t5, t6, t7, t8, t9, t10⟩ := tld
    have f42 : (zx_up r2.2.1 18 5 0) 4 2 = Int32.ofNat (c 2) := by rw [zu_other (by decide), t1 4 (by decide) (by decide) (by decide) (by decide)]; exact e42
    rw [f42]
    generalize hR : (zx_up (zx_up (zx_up (zx_up (zx_up (zx_up (zx_up (zx_up r2.2.1 18 5 0) 29 8 (Int32.ofNat (c 2))) 29 6 0) 29 7 (-1)) 29 9 0) 29 10 0) 29 11 0) 29 12 (-1)) = R
    have Rq : ∀ q, q ≠ 18 → q ≠ 29 → R q = r2.2.1 q := fun q a b => by rw [← hR, zu_other b, zu_other b, zu_other b, zu_other b, zu_other b, zu_other b, zu_other b, zu_other a]
    have R183 : R 18 3 = r2.2.1 18 3 := by rw [← hR]; iterate 7 rw [zu_other (by decide)]
                                           rw [zx_up_same, zu_ne (by decide)]
    have R185 : R 18 5 = 0 := by rw [← hR]; iterate 7 rw [zu_other (by decide)]
                                 rw [zx_up_same, zu_eq]
    have R6 : R 29 6 = 0 := by rw [← hR]; iterate 5 rw [zx_up_same, zu_ne (by decide)]
                               rw [zx_up_same, zu_eq]
    have R8 : R 29 8 = Int32.ofNat (c 2) := by rw [← hR]; iterate 6 rw [zx_up_same, zu_ne (by decide)]
                                               rw [zx_up_same, zu_eq]
    have R12 : R 29 12 = -1 := by rw [← hR, zx_up_same, zu_eq]
    clear hR
    have e4 : R 4 2 = Int32.ofNat (c 2) := by rw [Rq 4 (by decide) (by decide), t1 4 (by decide) (by decide) (by decide) (by decide)]; exact e42
    rw [e4, zo_1 (by omega)]
    generalize hS : zx_up R 4 2 (Int32.ofNat (c 2 + 1)) = S
    have Sq : ∀ q, q ≠ 4 → S q = R q := fun q a => by rw [← hS, zu_other a]
    have S4 : S 4 2 = Int32.ofNat (c 2 + 1) := by rw [← hS, zx_up_same, zu_eq]
    have S4' : ∀ i, i ≠ 2 → S 4 i = ρ 4 i := fun i hi => by rw [← hS, zx_up_same, zu_ne hi, Rq 4 (by decide) (by decide), t1 4 (by decide) (by decide) (by decide) (by decide), x2.1 4 (by decide)]
    clear hS
    have sxS : SX T (a + 2) S r2.2.2 := sx2.of (by rw [Sq 17 (by decide), Rq 17 (by decide) (by decide)]) (by rw [Sq 25 (by decide), Rq 25 (by decide) (by decide)]) (by rw [Sq 26 (by decide), Rq 26 (by decide) (by decide)]) (by rw [Sq 27 (by decide), Rq 27 (by decide) (by decide)]) rfl rfl
    have nsS : NX3 (lUp c 2 (c 2 + 1)) (wsAdd ws 2 (c 2) (T.2.2.1 (a + 1))) S r2.2.2 := by
      refine ns.tell (s := 2) (by decide) lt no S4 (fun s' hs' ne => S4' s' ne) ?_ ?_ (fun j hj => ?_) ?_ (fun j hj => ?_) t8 (fun j hj => ?_)
      · rw [Sq 18 (by decide), R183]; exact t3
      · rw [Sq 20 (by decide), Rq 20 (by decide) (by decide)]; exact t4
      · rw [Sq 20 (by decide), Rq 20 (by decide) (by decide), t5 j hj, x2.1 20 (by decide)]
      · rw [Sq 21 (by decide), Rq 21 (by decide) (by decide)]; exact t6
      · rw [Sq 21 (by decide), Rq 21 (by decide) (by decide), t7 j hj, x2.1 21 (by decide)]
      · rw [t9 j hj, x3 19 (by decide)]
    have nnS : NNX (lUp c 2 (c 2 + 1)) (wsAdd ws 2 (c 2) (T.2.2.1 (a + 1))) 0 (fun _ => 0) S r2.2.2 := nsS.to (by rw [Sq 18 (by decide)]; exact R185)
    refine zp_bind (zp_mono (p_open (d := 0) (s := 0) (m := -1) sm.1 sxS nnS (by rw [Sq 29 (by decide)]; exact R6) (by decide)) fun r6 h6 => zp_some fun {Q} kA kB => ?_)
    unfold zf_M_readThread
    refine zp_bind (zp_mono (sm.nx kk) ?_)
    rintro r23 ⟨s23, f23⟩
    obtain ⟨n23, e17⟩ := nm1 r23 f23
    have e10 : 10 + Int32.ofNat (c 2) = Int32.ofNat (10 + c 2) := zo_plus (i := 10) rfl (by omega)
    rw [e17, e10]
    refine zp_ite (fun _ => zp_bind (zp_mono (m r23 s23 n23) fun u hu => zp_ite (fun _ => zp_ite (fun _ => zp_bind (zp_mono (p_M_call (by omega) (s23.cur k3)) ?_)) fun q => ?_) fun q => absurd hu q)) fun q => absurd (s23.d.name.mpr k3) q
    · rintro μ2 ⟨mc, nmm⟩
      have e17' : μ2 82 17 = Int32.ofNat (c 2) := by rw [mc.1 82 (by decide) (by decide)]; exact e17
      rw [e17', zo_1 (by omega)]
      have sm2 : SM T (a + 1) (zx_up (zx_up μ2 82 39 (Int32.ofNat (c 2))) 82 17 (Int32.ofNat (c 2 + 1))) := s23.of (by rw [zu_other (by decide), zu_other (by decide), mc.1 84 (by decide) (by decide)]) fun i hi => by rw [zx_up_same, zu_ne (by omega), zx_up_same, zu_ne (by omega), mc.1 82 (by decide) (by decide)]
      refine zp_bind (zp_mono (sm2.nx (by rw [k3]; decide)) ?_)
      rintro r7 ⟨s7, f7⟩
      have e39 : r7 82 39 = Int32.ofNat (c 2) := by rw [f7.2 39 (by decide) (by decide) (by decide) (by decide), zx_up_same, zu_ne (by decide), zx_up_same, zu_eq]
      rw [e39, zo_n (by omega)]
      refine zp_chk fun _ => ?_
      generalize hV : (zx_up (zx_up (zx_up (zx_up (zx_up (zx_up r7 90 (c 2) 0) 82 18 0) 82 46 0) 82 40 0) 82 41 (-1)) 82 37 (-1)) = V
      have Vq : ∀ q, q ≠ 82 → q ≠ 90 → V q = r7 q := fun q a b => by rw [← hV, zu_other a, zu_other a, zu_other a, zu_other a, zu_other a, zu_other b]
      have V82 : ∀ i, i ≠ 18 → i ≠ 46 → i ≠ 40 → i ≠ 41 → i ≠ 37 → V 82 i = r7 82 i := fun i a b c d e => by rw [← hV, zx_up_same, zu_ne e, zx_up_same, zu_ne d, zx_up_same, zu_ne c, zx_up_same, zu_ne b, zx_up_same, zu_ne a, zu_other (by decide)]
      have V18 : V 82 18 = 0 := by rw [← hV]; iterate 4 rw [zx_up_same, zu_ne (by decide)]
                                   rw [zx_up_same, zu_eq]
      have V46 : V 82 46 = 0 := by rw [← hV]; iterate 3 rw [zx_up_same, zu_ne (by decide)]
                                   rw [zx_up_same, zu_eq]
      have V41 : V 82 41 = -1 := by rw [← hV, zx_up_same, zu_ne (by decide), zx_up_same, zu_eq]
      have V90 : V 90 (c 2) = 0 := by rw [← hV]; iterate 5 rw [zu_other (by decide)]
                                      rw [zx_up_same, zu_eq]
      have V90' : ∀ j, j ≠ c 2 → V 90 j = r7 90 j := fun j hj => by rw [← hV]; iterate 5 rw [zu_other (by decide)]
                                                                    rw [zx_up_same, zu_ne hj]
      clear hV
      have r7q : ∀ q, q ≠ 82 → r7 q = μ2 q := fun q a => by rw [f7.1 q a, zu_other a, zu_other a]
      have r782 : ∀ i, i ≠ 5 → i ≠ 6 → i ≠ 7 → i ≠ 8 → i ≠ 17 → i ≠ 39 → r7 82 i = r23 82 i := fun i a b c d e f => by rw [f7.2 i a b c d, zx_up_same, zu_ne e, zx_up_same, zu_ne f, mc.1 82 (by decide) (by decide)]
      have e717 : r7 82 17 = Int32.ofNat (c 2 + 1) := by rw [f7.2 17 (by decide) (by decide) (by decide) (by decide), zx_up_same, zu_eq]
      have smV : SM T (a + 2) V := s7.of (Vq 84 (by decide) (by decide)) fun i hi => V82 i (by omega) (by omega) (by omega) (by omega) (by omega)
      have nmV : NM3 (lUp c 2 (c 2 + 1)) (wsAdd ws 2 (c 2) (T.2.2.1 (a + 1))) V := n23.tell (s := 2) (by decide) lt mc nmm (by rw [Vq 85 (by decide) (by decide), r7q 85 (by decide)]) (by rw [Vq 86 (by decide) (by decide), r7q 86 (by decide)]) (by rw [V82 17 (by decide) (by decide) (by decide) (by decide) (by decide)]; exact e717) (fun i h1 h2 h3 => by rw [V82 i (by omega) (by omega) (by omega) (by omega) (by omega), r782 i (by omega) (by omega) (by omega) (by omega) (by omega) (by omega)])
      have Mq : ∀ q, q ≠ 82 → q ≠ 85 → q ≠ 86 → q ≠ 90 → V q = μ q := fun q a1 a2 a3 a4 => by rw [Vq q a1 a4, r7q q a1, mc.1 q a2 a3, f23.1 q a1]
      rcases h6 with ⟨xfl, m1⟩ | ⟨_, sx6, nx6, ⟨ρ1, xa, en⟩, g6, m1⟩
      · exact zp_bind (zp_mono (m1 N' V 0 smV V46) fun s hs => p_F_118 hs (kA s _ xfl hs))
      · refine zp_bind (zp_mono (m1 N' V 0 smV V46) ?_)
        rintro s ⟨s1, o⟩
        refine kB s (a + 3) (lUp c 2 (c 2 + 1)) (wsAdd ws 2 (c 2) (T.2.2.1 (a + 1))) (lUp len (c 2) 0) (by omega) ⟨sx6, s1, nx6, (nmV.to V18).opn o, ?_, ?_⟩
        ·
          obtain ⟨p1, p2, p3, p4, p5, p6, p7⟩ := pk
          have rq : ∀ q, q ≠ 4 → q ≠ 29 → q ≠ 30 → q ≠ 31 → q ≠ 32 → q ≠ 33 → q ≠ 34 → q ≠ 25 → q ≠ 18 → q ≠ 20 → q ≠ 21 → r6.1 q = ρ q := fun q b1 b2 b3 b4 b5 b6 b7 b8 b9 b10 b11 => by rw [en.1 q b1 b2 b3 b4 b5 b6 b7, xa.1 q b8, Sq q b1, Rq q b9 b2, t1 q b9 b10 b11 b8, x2.1 q b8]
          have r5 : r6.1 5 = ρ 5 := rq 5 (by decide) (by decide) (by decide) (by decide) (by decide) (by decide) (by decide) (by decide) (by decide) (by decide) (by decide)
          have r7' : r6.1 7 = ρ 7 := rq 7 (by decide) (by decide) (by decide) (by decide) (by decide) (by decide) (by decide) (by decide) (by decide) (by decide) (by decide)
          have s90 : s 90 = V 90 := o.1 90 (by decide) (by decide) (by decide) (by decide)
          have s92 : s 92 = μ 92 := by rw [o.1 92 (by decide) (by decide) (by decide) (by decide), Mq 92 (by decide) (by decide) (by decide) (by decide)]
          have en7 := en.2.2.2.2.2.2
          rcases en7 with en7 | en7
          · exact absurd en7.1 (by decide)
          have e43 : r6.1 4 3 = ρ 4 3 := by rw [en7.2.2.1, xa.1 4 (by decide)]; exact S4' 3 (by decide)
          have e44 : r6.1 4 4 = ρ 4 4 := by rw [en.2.2.2.2.2.1 4 (by decide), xa.1 4 (by decide)]; exact S4' 4 (by decide)
          have s25 : s 82 25 = μ 82 25 := by rw [o.2.1 25 (by decide) (by decide) (by decide) (by decide) (by decide), V82 25 (by decide) (by decide) (by decide) (by decide) (by decide), r782 25 (by decide) (by decide) (by decide) (by decide) (by decide) (by decide), f23.2 25 (by decide) (by decide) (by decide) (by decide)]
          refine ⟨fun t ht => ?_, fun t h1 h2 => ?_, ?_, by rw [e43, s25]; exact p4, ⟨by decide, en.2.2.2.1⟩, fun _ => ⟨by rw [lUp_at]; omega, ?_, ?_, ?_, o.2.2.1, fun i hi => ?_⟩, fun t s' ht hs => ?_⟩
          · rw [lUp_at] at ht
            rw [r5, s90]
            by_cases q : t = c 2
            · rw [q, lUp_at, V90]; exact ⟨by omega, p2 _ (by omega) lt4, rfl⟩
            · rw [lUp_ne q, V90' t q, r7q 90 (by decide), mc.1 90 (by decide) (by decide), f23.1 90 (by decide)]; exact p1 t (by omega)
          · rw [lUp_at] at h1
            rw [r5]; exact p2 t (by omega) h2
          · rw [e44, lUp_at, sumL, sumL_congr (len := len) (c 2) (fun j hj => lUp_ne (by omega)), lUp_at]; exact p3
          · rw [lUp_at, en.2.2.2.2.1 8 (by decide) (by decide) (by decide), xa.1 29 (by decide), Sq 29 (by decide)]; exact R8
          · rw [lUp_at, o.2.1 39 (by decide) (by decide) (by decide) (by decide) (by decide), V82 39 (by decide) (by decide) (by decide) (by decide) (by decide)]; exact e39
          · rw [en7.2.1, xa.1 29 (by decide), Sq 29 (by decide), R12, o.2.1 41 (by decide) (by decide) (by decide) (by decide) (by decide), V41]
          · have : i = 0 := by omega
            rw [this, en.2.1.1, o.2.2.2.1.1]
          · rw [lUp_at] at ht
            rw [r7', s92]
            by_cases q : t = c 2
            · rw [q, lUp_at] at hs; exact absurd hs (Nat.not_lt_zero _)
            · rw [lUp_ne q] at hs; exact p7 t s' (by omega) hs
        ·
          obtain ⟨nz, wz, SL, h1, h2, h3, h4, h5⟩ := la
          have A : ∀ q, SJ (lUp c 2 (c 2 + 1)) (lUp len (c 2) 0) s q ↔ SJ c len μ q := by
            intro q
            have s92 : s 92 = μ 92 := by rw [o.1 92 (by decide) (by decide) (by decide) (by decide), Mq 92 (by decide) (by decide) (by decide) (by decide)]
            unfold SJ
            rw [s92, lUp_at]
            constructor
            · rintro ⟨⟨t, s', b1, b2, b3⟩, b4⟩
              by_cases q2 : t = c 2
              · rw [q2, lUp_at] at b2; exact absurd b2 (Nat.not_lt_zero _)
              · rw [lUp_ne q2] at b2; exact ⟨⟨t, s', by omega, b2, b3⟩, b4⟩
            · rintro ⟨⟨t, s', b1, b2, b3⟩, b4⟩
              exact ⟨⟨t, s', by omega, by rw [lUp_ne (by omega)]; exact b2, b3⟩, b4⟩
          have y24 : r6.1 24 = ρ 24 := by rw [en.1 24 (by decide) (by decide) (by decide) (by decide) (by decide) (by decide) (by decide), xa.1 24 (by decide), Sq 24 (by decide), Rq 24 (by decide) (by decide), t1 24 (by decide) (by decide) (by decide) (by decide), x2.1 24 (by decide)]
          have y23 : r6.2 23 = τ 23 := by rw [g6 23 (by decide), t10 23 (by decide) (by decide), x3 23 (by decide)]
          have s87 : s 87 = μ 87 := by rw [o.1 87 (by decide) (by decide) (by decide) (by decide), Mq 87 (by decide) (by decide) (by decide) (by decide)]
          have s93 : s 93 = μ 93 := by rw [o.1 93 (by decide) (by decide) (by decide) (by decide), Mq 93 (by decide) (by decide) (by decide) (by decide)]
          have s19 : s 82 19 = μ 82 19 := by rw [o.2.1 19 (by decide) (by decide) (by decide) (by decide) (by decide), V82 19 (by decide) (by decide) (by decide) (by decide) (by decide), r782 19 (by decide) (by decide) (by decide) (by decide) (by decide) (by decide), f23.2 19 (by decide) (by decide) (by decide) (by decide)]
          refine ⟨nz, wz, SL, h1, s19.trans h2, fun l hl => ?_, h4, fun q hq => ?_⟩
          · obtain ⟨b1, b2, b3, b4⟩ := h3 l hl
            refine ⟨b1.of (fun i hi => ?_) ?_, (A _).mpr b2, by rw [y23]; exact b3, by rw [y24, s87]; exact b4⟩
            · rw [o.1 85 (by decide) (by decide) (by decide) (by decide), Vq 85 (by decide) (by decide), r7q 85 (by decide), mc.2.2 _ (by omega), f23.1 85 (by decide)]
            · rw [o.1 86 (by decide) (by decide) (by decide) (by decide), Vq 86 (by decide) (by decide), r7q 86 (by decide), mc.2.1 _ (by omega), f23.1 86 (by decide)]
          · rw [s93, y23]
            rcases h5 q ((A q).mp hq) with ⟨k, k1, k2, k4⟩ | h
            · exact Or.inl ⟨k, by rw [lUp_at]; omega, k2, by rw [wsAdd_ne (fun x => by omega)]; exact k4⟩
            · exact Or.inr h
    · exfalso
      have : c 2 = 4 := zo_inj (k := c 2) (j := 4) (by omega) (by omega) (Classical.not_not.mp q)
      omega
