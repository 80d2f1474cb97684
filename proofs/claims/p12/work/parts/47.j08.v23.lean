-- both answer alike
set_option maxRecDepth 2000
theorem p_F_nextIfWell {N : Nat} {μ : zS} {p : Int32} (h : MFl μ p) : zp (zf_M_nextIfWell N μ) (fun s => MFl s p) := by
  unfold zf_M_nextIfWell
  exact zp_ite (fun _ => zp_some h) fun q => absurd (Classical.not_not.mp q) h.1
theorem p_F_lockNamed {N : Nat} {μ : zS} {p : Int32} (h : MFl μ p) : zp (zf_M_lockNamed N μ) (fun s => MFl s.2 p) := by
  unfold zf_M_lockNamed
  exact zp_ite (fun q => absurd q h.1) fun _ => zp_some h
theorem p_F_threadNamed {N : Nat} {μ : zS} {p : Int32} (h : MFl μ p) : zp (zf_M_threadNamed N μ) (fun s => MFl s.2 p) := by
  unfold zf_M_threadNamed
  exact zp_ite (fun q => absurd q h.1) fun _ => zp_some h
theorem p_F_value {N : Nat} {μ : zS} {p x : Int32} (h : MFl μ p) : zp (zf_M_value N μ x) (fun s => MFl s.2 p) := by
  unfold zf_M_value
  exact zp_ite (fun q => absurd q h.1) fun _ => zp_some h
theorem p_F_test {N : Nat} {μ : zS} {p x : Int32} (h : MFl μ p) : zp (zf_M_test N μ x) (fun s => MFl s p) := by
  unfold zf_M_test
  exact zp_ite (fun q => absurd q h.1) fun _ => zp_some h
theorem p_F_take {N : Nat} {μ : zS} {p x : Int32} (h : MFl μ p) : zp (zf_M_take N μ x) (fun s => MFl s p) := by
  unfold zf_M_take
  exact zp_ite (fun q => absurd q h.1) fun _ => zp_some h
theorem p_F_openBlock {N : Nat} {μ : zS} {p x y : Int32} (h : MFl μ p) : zp (zf_M_openBlock N μ x y) (fun s => MFl s p) := by
  unfold zf_M_openBlock
  exact zp_ite (fun q => absurd q h.1) fun _ => zp_some h
theorem MFl.up {μ : zS} {q i : Nat} {p x : Int32} (h : MFl μ p) (hq : q ≠ 82) : MFl (zx_up μ q i x) p := h.of (zu_other (Ne.symm hq))
def RLX (T : TS) (a : Nat) (c : Nat → Nat) (ws : Nat → Nat → Int64) (nv : Nat) (wv : Nat → Int64) (len : Nat → Nat) (d : Nat) (ρ : zS) (τ : zT) (μ : zS) : Prop :=
  SX T a ρ τ ∧ SM T a μ ∧ NNX c ws nv wv ρ τ ∧ NSM c ws nv wv μ ∧ PKW c len d ρ μ ∧ LAT c ws len ρ τ μ ∧ VX c len d ρ μ
def OUT (T : TS) (a : Nat) (c : Nat → Nat) (ws : Nat → Nat → Int64) (ρ : zS) (τ : zT) (μ : zS) : Prop :=
  (∃ p, XFl ρ p ∧ MFl μ p) ∨ (∃ a' nv wv len d, a < a' ∧ (d = 0 → μ 82 46 = 0 ∧ WVQ (c 2 - 1) (len (c 2 - 1)) ρ μ) ∧ RLX T a' c ws nv wv len d ρ τ μ)
theorem NSX.c2 {c : Nat → Nat} {ws : Nat → Nat → Int64} {nv : Nat} {wv : Nat → Int64} {ρ : zS} {τ : zT} (h : NSX c ws nv wv ρ τ) : c 2 ≤ 4 := (h.1 2 (by decide)).1
theorem p_X_room {T : TS} {a t L : Nat} {ρ : zS} {τ : zT} (sx : SX T a ρ τ) (h8 : ρ 29 8 = Int32.ofNat t) (ht : t < 4) (h5 : ρ 5 t = Int32.ofNat L) (hL : L ≤ 24) : zp (zf_Weaver_hasRoom ρ) (fun r => (L = 24 ∧ r = 0) ∨ (L < 24 ∧ r = 1)) ∧ zp (zf_Reader_hasRoomForStep ρ) (fun r => (L = 24 ∧ r.1 = 0 ∧ XFl r.2 (T.2.1 a)) ∨ (L < 24 ∧ r = (1, ρ))) := by
  have A : zp (zf_Weaver_hasRoom ρ) (fun r => (L = 24 ∧ r = 0) ∨ (L < 24 ∧ r = 1)) := by
    unfold zf_Weaver_hasRoom
    rw [h8]
    refine zp_bind (zp_mono (p_X_lengthOf ht) fun r e => ?_)
    rw [e, h5]
    refine zp_ite (fun q => zp_some (Or.inl ⟨?_, rfl⟩)) fun q => zp_some (Or.inr ⟨?_, rfl⟩)
    · have := (zo_le (k := 24) (j := L) (by omega) (by omega)).mp q
      omega
    · have : ¬ 24 ≤ L := fun x => q ((zo_le (k := 24) (j := L) (by omega) (by omega)).mpr x)
      omega
  refine ⟨A, ?_⟩
  unfold zf_Reader_hasRoomForStep zb_Reader_hasRoomForStep_18
  refine zp_bind (zp_mono A fun r hr => zp_ite (fun q => zp_some (Or.inr ⟨?_, rfl⟩)) fun q => zp_bind (zp_mono (p_X_fail (by decide)) fun r3 h3 => zp_ite (fun _ => zp_some (Or.inl ⟨?_, rfl, by rw [← sx.p]; exact h3.2⟩)) fun q2 => absurd h3.1 q2))
  · rcases hr with hr | hr
    · exact absurd hr.2 q
    · exact hr.1
  · rcases hr with hr | hr
    · exact hr.1
    · rw [hr.2] at q; exact absurd (by decide) q
theorem p_M_begin {T : TS} {a N t L : Nat} {c : Nat → Nat} {ws : Nat → Nat → Int64} {nv : Nat} {wv : Nat → Int64} {μ : zS} {k x : Int32} {F : Int32 × zS → zS → Option zS} {Q : zS → Prop} (sm : SM T a μ) (nm : NSM c ws nv wv μ) (hk : ¬ T.1 a = 0 ∧ ¬ T.1 a = 1) (h39 : μ 82 39 = Int32.ofNat t) (ht : t < 4) (h90 : μ 90 t = Int32.ofNat L) (hL : L ≤ 24) (bad : L = 24 → ∀ r r', MFl r' (T.2.1 a) → zp (F r r') Q) (good : L < 24 → ∀ r r', r.1 = Int32.ofNat L → ADS t L k x μ r.2 → NX0 r.2 r' → SM T (a + 1) r' → NSM c ws nv wv r' → zp (F r r') Q) : zp ((zf_M_addStep N μ k x).bind fun r => (zf_M_nextIfWell N r.2).bind fun r' => F r r') Q := by
  refine zp_bind (zp_mono (p_M_addStep h39 ht h90 hL sm.2.2.2) fun r hr => ?_)
  rcases hr with ⟨l, e, fl⟩ | ⟨l, e, as⟩
  · rw [sm.p] at fl
    exact zp_bind (zp_mono (p_F_nextIfWell fl) fun r' h' => bad l r r' h')
  · have g : ∀ q, q = 84 ∨ q = 85 ∨ q = 86 → r.2 q = μ q := fun q hq => as.1 q (by omega) (by omega) (by omega) (by omega) (by omega) (by omega) (by omega) (by omega) (by omega)
    have sm1 : SM T a r.2 := sm.of (g 84 (by decide)) fun i hi => as.2.1 i (by omega)
    have nm1 : NSM c ws nv wv r.2 := nm.of (fun i hi => as.2.1 i (by omega)) (fun p _ => by rw [g 86 (by decide)]) (fun p _ => by rw [g 85 (by decide)])
    refine zp_bind ?_
    unfold zf_M_nextIfWell
    refine zp_ite (fun q => absurd sm1.2.2.2 q) fun _ => zp_bind (zp_mono (M.tk sm1 nm1 hk) ?_)
    rintro ν ⟨n1, n2, n3, n4⟩
    exact zp_some (good l r ν e as n3 n1 n2)
def ENT (s m : Int32) (d : Nat) (ρ r : zS) : Prop :=
  (∀ q, q ≠ 4 → q ≠ 29 → q ≠ 30 → q ≠ 31 → q ≠ 32 → q ≠ 33 → q ≠ 34 → r q = ρ q) ∧ (r 30 d = s ∧ r 31 d = m ∧ r 32 d = 0 ∧ r 33 d = 0 ∧ r 34 d = ρ 29 11) ∧ (∀ j, j ≠ d → r 30 j = ρ 30 j ∧ r 31 j = ρ 31 j ∧ r 32 j = ρ 32 j ∧ r 33 j = ρ 33 j ∧ r 34 j = ρ 34 j) ∧ r 29 6 = Int32.ofNat (d + 1) ∧ (∀ i, i ≠ 6 → i ≠ 11 → i ≠ 12 → r 29 i = ρ 29 i) ∧ (∀ i, i ≠ 3 → r 4 i = ρ 4 i) ∧
  ((s = 2 ∧ r 29 12 = ρ 4 3 ∧ r 4 3 = ρ 4 3 + 1 ∧ r 29 11 = ρ 29 11) ∨ (s ≠ 2 ∧ r 29 12 = ρ 29 12 ∧ r 4 3 = ρ 4 3 ∧ ((s = 1 ∧ r 29 11 = ρ 29 11 ||| zJ_shl 1 m) ∨ (s ≠ 1 ∧ r 29 11 = ρ 29 11))))
def OBM (s st : Int32) (d : Nat) (μ ν : zS) : Prop :=
  (∀ q, q ≠ 82 → q ≠ 103 → q ≠ 104 → q ≠ 106 → ν q = μ q) ∧ (∀ i, i ≠ 5 → i ≠ 6 → i ≠ 7 → i ≠ 8 → i ≠ 46 → ν 82 i = μ 82 i) ∧ ν 82 46 = Int32.ofNat (d + 1) ∧ (ν 103 d = s ∧ ν 104 d = st ∧ ν 106 d = μ 82 40) ∧ (∀ j, j ≠ d → ν 103 j = μ 103 j ∧ ν 104 j = μ 104 j ∧ ν 106 j = μ 106 j)
theorem p_X_enter {ρ : zS} {s m : Int32} {d : Nat} (h6 : ρ 29 6 = Int32.ofNat d) (hd : d < 8) : zp (zf_Weaver_enter ρ s m) (fun r => ENT s m d ρ r) := by
  unfold zf_Weaver_enter
  rw [h6, zo_n (by omega), zo_1 (by omega)]
  refine zp_ite (fun q => ?_) fun _ => zp_ite (fun _ => zp_chk fun _ => zp_chk fun _ => zp_chk fun _ => zp_chk fun _ => zp_chk fun _ => zp_ite (fun s1 => zp_ite (fun s2 => zp_some ?_) fun s2 => zp_some ?_) fun s1 => zp_some ?_) fun q => ?_
  · have := (zo_lt (k := d) (j := 0) (by omega) (by omega)).mp q
    omega
  · refine ⟨fun q a4 a29 a30 a31 a32 a33 a34 => ?_, ⟨?_, ?_, ?_, ?_, ?_⟩, fun j hj => ⟨?_, ?_, ?_, ?_, ?_⟩, ?_, fun i b6 b11 b12 => ?_, fun i hi => ?_, Or.inr ⟨s2, ?_, ?_, Or.inr ⟨s1, ?_⟩⟩⟩
    · rw [zu_other a29, zu_other a34, zu_other a33, zu_other a32, zu_other a31, zu_other a30]
    all_goals simp [zx_up_same, zu_other, zu_eq, zu_ne, *]
  · refine ⟨fun q a4 a29 a30 a31 a32 a33 a34 => ?_, ⟨?_, ?_, ?_, ?_, ?_⟩, fun j hj => ⟨?_, ?_, ?_, ?_, ?_⟩, ?_, fun i b6 b11 b12 => ?_, fun i hi => ?_, Or.inl ⟨Classical.not_not.mp s2, ?_, ?_, ?_⟩⟩
    · rw [zu_other a4, zu_other a29, zu_other a29, zu_other a34, zu_other a33, zu_other a32, zu_other a31, zu_other a30]
    all_goals simp [zx_up_same, zu_other, zu_eq, zu_ne, *]
  · have e1 := Classical.not_not.mp s1
    refine ⟨fun q a4 a29 a30 a31 a32 a33 a34 => ?_, ⟨?_, ?_, ?_, ?_, ?_⟩, fun j hj => ⟨?_, ?_, ?_, ?_, ?_⟩, ?_, fun i b6 b11 b12 => ?_, fun i hi => ?_, Or.inr ⟨by rw [e1]; decide, ?_, ?_, Or.inl ⟨e1, ?_⟩⟩⟩
    · rw [zu_other a29, zu_other a29, zu_other a34, zu_other a33, zu_other a32, zu_other a31, zu_other a30]
    all_goals simp [zx_up_same, zu_other, zu_eq, zu_ne, *]
  · exact absurd ((zo_lt (k := d) (j := 8) (by omega) (by omega)).mpr hd) q
theorem p_open {T : TS} {a d : Nat} {c : Nat → Nat} {ws : Nat → Nat → Int64} {nv : Nat} {wv : Nat → Int64} {ρ : zS} {τ : zT} {b : Nat → Int32} {n s m : Int32} (tb : TB b n T.1 T.2.1 T.2.2.1 T.2.2.2.1 T.2.2.2.2) (h : SX T a ρ τ) (ns : NNX c ws nv wv ρ τ) (h6 : ρ 29 6 = Int32.ofNat d) (hd : d ≤ 8) : zp (zf_Reader_openBlock ρ τ s m) (fun r => (XFl r.1 (T.2.1 a) ∧ ∀ N μ st, SM T a μ → μ 82 46 = Int32.ofNat d → zp (zf_M_openBlock N μ s st) (fun s => MFl s (T.2.1 a))) ∨ (d < 8 ∧ SX T (a + 1) r.1 r.2 ∧ NNX c ws nv wv r.1 r.2 ∧ (∃ ρ1, XA0 ρ ρ1 ∧ ENT s m d ρ1 r.1) ∧ (∀ q, q ≠ 25 → r.2 q = τ q) ∧ ∀ N μ st, SM T a μ → μ 82 46 = Int32.ofNat d → zp (zf_M_openBlock N μ s st) (fun ν => SM T (a + 1) ν ∧ OBM s st d μ ν))) := by
  have A : (T.1 a = 123 → d < 8) → zp (zb_Reader_openBlock_33 ρ τ s m) (fun r => (XFl r.1 (T.2.1 a) ∧ ∀ N μ st, SM T a μ → μ 82 46 = Int32.ofNat d → zp (zf_M_openBlock N μ s st) (fun s => MFl s (T.2.1 a))) ∨ (d < 8 ∧ SX T (a + 1) r.1 r.2 ∧ NNX c ws nv wv r.1 r.2 ∧ (∃ ρ1, XA0 ρ ρ1 ∧ ENT s m d ρ1 r.1) ∧ (∀ q, q ≠ 25 → r.2 q = τ q) ∧ ∀ N μ st, SM T a μ → μ 82 46 = Int32.ofNat d → zp (zf_M_openBlock N μ s st) (fun ν => SM T (a + 1) ν ∧ OBM s st d μ ν))) := by
    intro hlt
    unfold zb_Reader_openBlock_33
    refine zp_bind (zp_mono (p_take tb h ns (x := 123) (by decide)) fun r hr => ?_)
    rcases hr with ⟨e0, nk, fl, m1⟩ | ⟨e1, ek, sx, nx, xa, g, m1⟩
    · refine zp_ite (fun _ => zp_some (Or.inl ⟨fl, fun N μ st sm hm => ?_⟩)) fun q => absurd e0 q
      unfold zf_M_openBlock
      refine zp_ite (fun _ => zp_bind (zp_mono (p_M_isSign sm.d (c := 123) (by decide)) fun u hu => zp_ite (fun z => ?_) fun z => zp_bind (zp_mono (p_M_cannot sm.2.2.2) fun s hs => zp_some (by rw [← sm.p]; exact hs)))) fun q => absurd sm.2.2.2 q
      exfalso
      rcases hu with hu | hu
      · exact z hu.1
      · exact nk hu.2
    · refine zp_ite (fun q => absurd (q.symm.trans e1) (by decide)) fun _ => zp_bind (zp_mono (p_X_enter (d := d) (by rw [xa.1 29 (by decide)]; exact h6) (hlt ek)) fun r' en => zp_some (Or.inr ⟨hlt ek, ?_, ?_, ⟨_, xa, en⟩, g, fun N μ st sm hm => ?_⟩))
      · have z : ∀ q, q = 17 ∨ q = 25 ∨ q = 26 ∨ q = 27 → r' q = r.2.1 q := fun q hq => en.1 q (by omega) (by omega) (by omega) (by omega) (by omega) (by omega) (by omega)
        exact sx.of (z 17 (by decide)) (z 25 (by decide)) (z 26 (by decide)) (z 27 (by decide)) rfl rfl
      · have z : ∀ q, q = 18 ∨ q = 20 ∨ q = 21 → r' q = r.2.1 q := fun q hq => en.1 q (by omega) (by omega) (by omega) (by omega) (by omega) (by omega) (by omega)
        exact nx.of (fun s hs => en.2.2.2.2.2.1 s (by omega)) (z 18 (by decide)) (z 20 (by decide)) (z 21 (by decide)) rfl rfl
      · unfold zf_M_openBlock
        have d8 : ¬ μ 82 46 = 8 := by
          rw [hm]
          intro q
          have := zo_inj (k := d) (j := 8) (by omega) (by omega) q
          have := hlt ek
          omega
        refine zp_ite (fun _ => zp_bind (zp_mono (p_M_isSign sm.d (c := 123) (by decide)) fun u hu => zp_ite (fun z => zp_ite (fun _ => zp_bind (zp_mono (sm.nx (by rw [ek]; decide)) ?_)) fun q => absurd d8 q) fun z => ?_)) fun q => absurd sm.2.2.2 q
        · rintro ν ⟨sm', f⟩
          have e46 : ν 82 46 = Int32.ofNat d := by rw [f.2 46 (by decide) (by decide) (by decide) (by decide)]; exact hm
          have e40 : ν 82 40 = μ 82 40 := f.2 40 (by decide) (by decide) (by decide) (by decide)
          rw [e46, zo_n (by omega), zo_1 (by omega), e40]
          refine zp_chk fun _ => zp_chk fun _ => zp_chk fun _ => zp_some ⟨sm'.of ?_ fun i hi => ?_, fun q a1 a2 a3 a4 => ?_, fun i b5 b6 b7 b8 b46 => ?_, ?_, ⟨?_, ?_, ?_⟩, fun j hj => ⟨?_, ?_, ?_⟩⟩
          · iterate 4 rw [zu_other (by decide)]
          · rw [zx_up_same, zu_ne (by omega)]
            iterate 3 rw [zu_other (by decide)]
          · rw [zu_other a1, zu_other a4, zu_other a3, zu_other a2]; exact f.1 q a1
          · rw [zx_up_same, zu_ne b46]
            iterate 3 rw [zu_other (by decide)]
            exact f.2 i b5 b6 b7 b8
          · rw [zx_up_same, zu_eq]
          · iterate 3 rw [zu_other (by decide)]
            rw [zx_up_same, zu_eq]
          · iterate 2 rw [zu_other (by decide)]
            rw [zx_up_same, zu_eq]
          · rw [zu_other (by decide), zx_up_same, zu_eq]
          · iterate 3 rw [zu_other (by decide)]
            rw [zx_up_same, zu_ne hj, f.1 103 (by decide)]
          · iterate 2 rw [zu_other (by decide)]
            rw [zx_up_same, zu_ne hj, zu_other (by decide), f.1 104 (by decide)]
          · rw [zu_other (by decide), zx_up_same, zu_ne hj, zu_other (by decide), zu_other (by decide), f.1 106 (by decide)]
        · exfalso
          rcases hu with hu | hu
          · exact hu.2 ek
          · exact z (by rw [hu.1]; decide)
  unfold zf_Reader_openBlock
  rw [h.k, h6]
  refine zp_ite (fun q => A fun e => absurd e q) fun q => zp_ite (fun z => A fun _ => (zo_lt (k := d) (j := 8) (by omega) (by omega)).mp z) fun z => ?_
  have d8 : d = 8 := by
    have : ¬ d < 8 := fun x => z ((zo_lt (k := d) (j := 8) (by omega) (by omega)).mpr x)
    omega
  refine zp_bind (zp_mono (p_X_fail (by decide)) fun r hr => zp_some (Or.inl ⟨by rw [← h.p]; exact hr.2, fun N μ st sm hm => ?_⟩))
  unfold zf_M_openBlock
  refine zp_ite (fun _ => zp_bind (zp_mono (p_M_isSign sm.d (c := 123) (by decide)) fun u hu => zp_ite (fun z => zp_ite (fun y => ?_) fun _ => zp_bind (zp_mono (p_M_fail sm.2.2.2) fun s hs => zp_some (by rw [← sm.p]; exact hs))) fun z => zp_bind (zp_mono (p_M_cannot sm.2.2.2) fun s hs => zp_some (by rw [← sm.p]; exact hs)))) fun q => absurd sm.2.2.2 q
  exact absurd (by rw [hm, d8]; rfl) y
