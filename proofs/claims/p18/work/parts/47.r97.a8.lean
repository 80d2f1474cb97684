-- both answer alike
set_option maxRecDepth 2000
def CWA (σ ν : zS) : Prop := (∀ q, (4 ≤ q ∧ q ≤ 16) ∨ (41 ≤ q ∧ q ≤ 63) ∨ (88 ≤ q ∧ q ≤ 101) → ν q = σ q) ∧ (ν 82 15 = σ 82 15 ∧ ν 82 17 = σ 82 17 ∧ ν 82 25 = σ 82 25)
def CWI (σ : zS) (i : Nat) (v : Int32) : Prop := ∀ (N : Nat) (ν : zS), CWA σ ν → BTZ ν → ν 82 53 = 1 → zp (zf_M_whole N ν (Int32.ofNat i)) (fun s => s.1 = v)
def CW (σ : zS) : Prop := σ 2 13 = 1 → (σ 2 14 = 0 → σ 2 15 = 0 ∧ ∀ i, i < 6 → σ 75 i = -1) ∧ ∀ i, i < 6 → Int32.ofNat i < σ 82 25 → σ 75 i = -1 ∨ CWI σ i (σ 75 i)
def EQH (σ : zS) (τ : zT) : Prop := EQZ σ τ ∧ SPA σ σ ∧ CW σ
theorem CWA.tr {σ r ν : zS} (h : CWA σ r) (g : CWA r ν) : CWA σ ν := ⟨fun q hq => (g.1 q hq).trans (h.1 q hq), g.2.1.trans h.2.1, g.2.2.1.trans h.2.2.1, g.2.2.2.trans h.2.2.2⟩
theorem CWI.of {σ r : zS} {i : Nat} {v : Int32} (h : CWI σ i v) (e : CWA σ r) : CWI r i v := fun N ν a b c => h N ν (e.tr a) b c
theorem CW.of {σ r : zS} (h : CW σ) (e : CWA σ r) (e2 : r 2 13 = σ 2 13 ∧ r 2 14 = σ 2 14 ∧ r 2 15 = σ 2 15) (e75 : r 75 = σ 75) : CW r := fun w => by
  rw [e2.1] at w
  obtain ⟨h1, h2⟩ := h w
  refine ⟨fun z => ?_, fun i hi lt => ?_⟩
  · rw [e2.2.1] at z
    rw [e2.2.2, e75]
    exact h1 z
  · rw [e.2.2.2] at lt
    rw [e75]
    rcases h2 i hi lt with k | k
    · exact Or.inl k
    · exact Or.inr (k.of e)
theorem EQH.x {σ r : zS} {τ : zT} (h : EQH σ τ) (f : (FX σ r ∧ FE σ r) ∧ F75 σ r) (j : ∀ q, 82 ≤ q → r q = σ q) : EQH r τ := by
  have k82 := j 82 (by decide)
  refine ⟨h.1.x f.1 j, h.2.1.of ⟨j 90 (by decide), j 91 (by decide), j 97 (by decide)⟩ ⟨by rw [k82], by rw [k82], by rw [k82], by rw [k82]⟩, h.2.2.of ⟨fun q hq => ?_, by rw [k82], by rw [k82], by rw [k82]⟩ ⟨f.1.1.2 13 (by decide) (by decide) (by decide), f.1.2.2.1, f.1.2.2.2⟩ f.2⟩
  rcases hq with q | q | q
  · exact f.1.1.1 _ (by omega) (by omega)
  · exact f.1.2.1 _ q.1 q.2
  · exact j _ (by omega)
theorem EQH.w {σ r : zS} {τ : zT} (h : EQH σ τ) (f : FX σ r ∧ FE σ r) (j : ∀ q, 82 ≤ q → r q = σ q) (c : CW r) : EQH r τ := by
  have k82 := j 82 (by decide)
  exact ⟨h.1.x f j, h.2.1.of ⟨j 90 (by decide), j 91 (by decide), j 97 (by decide)⟩ ⟨by rw [k82], by rw [k82], by rw [k82], by rw [k82]⟩, c⟩
theorem cwa_m {σ r : zS} (f : FM σ r) : CWA σ r := ⟨fun q hq => f.1 q (by omega) (by omega), f.2 15 (by decide) (by decide), f.2 17 (by decide) (by decide), f.2 25 (by decide) (by decide)⟩
theorem spa_m {σ r : zS} (h : SPA σ σ) (f : FM σ r) : SPA r r := h.of ⟨f.1 90 (by decide) (by decide), f.1 91 (by decide) (by decide), f.1 97 (by decide) (by decide)⟩ ⟨f.2 17 (by decide) (by decide), f.2 25 (by decide) (by decide), f.2 39 (by decide) (by decide), f.2 41 (by decide) (by decide)⟩
theorem cw_m {σ r : zS} (h : CW σ) (f : FM σ r) : CW r := h.of (cwa_m f) ⟨by rw [f.1 2 (by decide) (by decide)], by rw [f.1 2 (by decide) (by decide)], by rw [f.1 2 (by decide) (by decide)]⟩ (f.1 75 (by decide) (by decide))
theorem EQH.m {σ r : zS} {τ : zT} (h : EQH σ τ) (f : FM σ r ∧ FH σ r) : EQH r τ := ⟨h.1.m f, spa_m h.2.1 f.1, cw_m h.2.2 f.1⟩
theorem EQH.ended {σ r ρ : zS} {τ : zT} {x : Int32} (h : EQH σ τ) (hr : ρ = zx_up σ 2 11 x ∨ ρ = σ) (f : (∀ q, q ≠ 82 → r q = ρ q) ∧ (∀ i, i ≠ 0 → i ≠ 2 → r 82 i = ρ 82 i)) : EQH r τ := by
  have e : ∀ q, q ≠ 2 → ρ q = σ q := fun q a => by
    rcases hr with e | e
    · rw [e, zu_other a]
    · rw [e]
  have e2 : ∀ i, i ≠ 11 → r 2 i = σ 2 i := fun i hi => by
    rw [f.1 2 (by decide)]
    rcases hr with e | e
    · rw [e, zx_up_same, zu_ne hi]
    · rw [e]
  have e82 : ∀ i, i ≠ 0 → i ≠ 2 → r 82 i = σ 82 i := fun i a b => by rw [f.2 i a b, e 82 (by decide)]
  have eq : ∀ q, q ≠ 2 → q ≠ 82 → r q = σ q := fun q a b => (f.1 q b).trans (e q a)
  exact ⟨h.1.ended hr f, h.2.1.of ⟨eq 90 (by decide) (by decide), eq 91 (by decide) (by decide), eq 97 (by decide) (by decide)⟩ ⟨e82 17 (by decide) (by decide), e82 25 (by decide) (by decide), e82 39 (by decide) (by decide), e82 41 (by decide) (by decide)⟩, h.2.2.of ⟨fun q hq => eq q (by omega) (by omega), e82 15 (by decide) (by decide), e82 17 (by decide) (by decide), e82 25 (by decide) (by decide)⟩ ⟨e2 13 (by decide), e2 14 (by decide), e2 15 (by decide)⟩ (eq 75 (by decide) (by decide))⟩
theorem EQH.feed {σ ρ r : zS} {τ υ : zT} {t n : Nat} {f : Nat → Int32} (h : EQH σ τ) (u1 : υ 1 = τ 1) (a : (∀ q, q ≠ 2 → q ≠ 3 → ρ q = σ q) ∧ (∀ i, i ≠ 11 → ρ 2 i = σ 2 i) ∧ tape (σ 3) (ρ 3) t n f) (b : (∀ q, q ≠ 82 → q ≠ 83 → r q = ρ q) ∧ (∀ i, i ≠ 0 → i ≠ 2 → r 82 i = ρ 82 i) ∧ tape (ρ 83) (r 83) t n f) (hb : ∀ i, -128 ≤ f i ∧ f i ≤ 127) : EQH r υ := by
  have e2 : ∀ i, i ≠ 11 → r 2 i = σ 2 i := fun i hi => by rw [b.1 2 (by decide) (by decide), a.2.1 i hi]
  have e82 : ∀ i, i ≠ 0 → i ≠ 2 → r 82 i = σ 82 i := fun i x y => by rw [b.2.1 i x y, a.1 82 (by decide) (by decide)]
  have eq : ∀ q, q ≠ 2 → q ≠ 3 → q ≠ 82 → q ≠ 83 → r q = σ q := fun q w x y z => (b.1 q y z).trans (a.1 q w x)
  exact ⟨h.1.feed u1 a b hb, h.2.1.of ⟨eq 90 (by decide) (by decide) (by decide) (by decide), eq 91 (by decide) (by decide) (by decide) (by decide), eq 97 (by decide) (by decide) (by decide) (by decide)⟩ ⟨e82 17 (by decide) (by decide), e82 25 (by decide) (by decide), e82 39 (by decide) (by decide), e82 41 (by decide) (by decide)⟩, h.2.2.of ⟨fun q hq => eq q (by omega) (by omega) (by omega) (by omega), e82 15 (by decide) (by decide), e82 17 (by decide) (by decide), e82 25 (by decide) (by decide)⟩ ⟨e2 13 (by decide), e2 14 (by decide), e2 15 (by decide)⟩ (eq 75 (by decide) (by decide) (by decide) (by decide))⟩
theorem EQH.full {σ r : zS} {τ : zT} (h : EQH σ τ) (b : (∀ q, q ≠ 82 → q ≠ 83 → r q = σ q) ∧ (∀ i, i ≠ 0 → i ≠ 2 → r 82 i = σ 82 i) ∧ r 83 = σ 83) : EQH r τ :=
  ⟨h.1.full b, h.2.1.of ⟨b.1 90 (by decide) (by decide), b.1 91 (by decide) (by decide), b.1 97 (by decide) (by decide)⟩ ⟨b.2.1 17 (by decide) (by decide), b.2.1 25 (by decide) (by decide), b.2.1 39 (by decide) (by decide), b.2.1 41 (by decide) (by decide)⟩, h.2.2.of ⟨fun q hq => b.1 q (by omega) (by omega), b.2.1 15 (by decide) (by decide), b.2.1 17 (by decide) (by decide), b.2.1 25 (by decide) (by decide)⟩ ⟨by rw [b.1 2 (by decide) (by decide)], by rw [b.1 2 (by decide) (by decide)], by rw [b.1 2 (by decide) (by decide)]⟩ (b.1 75 (by decide) (by decide))⟩
theorem st_readH {N : Nat} {σ : zS} {τ : zT} : zp (zf_X_read N σ τ) (fun r => ((r.2.1 2 13 = 1 → ∀ b, b < 4 → SPB r.2.1 b) ∧ r.2.1 2 14 = 0 ∧ r.2.1 2 15 = 0) ∧ ∀ i, i < 6 → r.2.1 75 i = -1) := zp_and st_read9 st_read75
theorem EQH.read {σ ρ r : zS} {τ υ : zT} (h : EQH σ τ) (f : FRd σ ρ ∧ GRd τ υ) (hi : ∀ q, 82 ≤ q → ρ q = σ q) (lo : ∀ q, q < 82 → r q = ρ q) (n : FMr ρ r) (l : LO ρ r) (z : NWC σ ρ ∧ (((ρ 2 13 = 1 → ∀ b, b < 4 → SPB ρ b) ∧ ρ 2 14 = 0 ∧ ρ 2 15 = 0) ∧ ∀ i, i < 6 → ρ 75 i = -1)) (fl : ((ρ 2 13 = 1 → WKA ρ r ∧ JTH ρ) ∧ (ρ 2 13 = 1 → FLV ρ r) ∧ (ρ 2 13 = 1 → NSF ρ)) ∧ (r 82 53 = 0 ∧ SPA r r) ∧ (ρ 2 13 = 1 → FLG ρ r ∧ SLT ρ)) : EQH r υ := by
  refine ⟨h.1.read f hi lo n l ⟨z.1, z.2.1⟩ ⟨fl.1, fl.2.1.1, fl.2.2⟩, fl.2.1.2, fun _ => ⟨fun _ => ?_, fun i hi _ => Or.inl ?_⟩⟩
  · rw [lo 2 (by decide), lo 75 (by decide)]
    exact ⟨z.2.1.2.2, z.2.2⟩
  · rw [lo 75 (by decide)]
    exact z.2.2 i hi
theorem c_runW {N : Nat} {σ : zS} : zp (zf_X_run N σ) (fun r => r.2 = σ ∨ (r.2 = zx_up σ 2 16 (-1)) ∨ (σ 2 14 = 0 ∧ r.2 2 14 = 1)) := by
  have fin : ∀ r : zS, (r = σ ∨ (r = zx_up σ 2 16 (-1)) ∨ (σ 2 14 = 0 ∧ r 2 14 = 1)) → zp (zb_X_run_57 N r) (fun r => r.2 = σ ∨ (r.2 = zx_up σ 2 16 (-1)) ∨ (σ 2 14 = 0 ∧ r.2 2 14 = 1)) := fun r e => by
    unfold zb_X_run_57
    exact zp_ite (fun _ => zp_some e) fun _ => zp_some e
  unfold zf_X_run
  refine zp_ite (fun _ => zp_ite (fun _ => fin _ (Or.inr (Or.inl rfl))) fun z14 => ?_) fun _ => zp_some (Or.inl rfl)
  have z := Classical.not_not.mp z14
  refine zp_bind (zp_mono (sr_f_Space_explore (σ0 := zx_up (zx_up σ 2 16 (-1)) 2 14 1) rfl) fun r4 h4 => zp_chk fun _ => ?_)
  have e4 : r4.2 2 = (zx_up (zx_up σ 2 16 (-1)) 2 14 1) 2 := h4
  have e5 : (zx_up r4.2 2 15 r4.1) 2 14 = 1 := by rw [zx_up_same, zu_ne (by decide), e4, zx_up_same, zu_eq]
  refine zp_ite (fun _ => fin _ (Or.inr (Or.inr ⟨z, e5⟩))) fun _ => zp_bind (zp_mono (sr_f_Findings_gather (σ0 := zx_up r4.2 2 15 r4.1) rfl) fun r7 h7 => fin _ (Or.inr (Or.inr ⟨z, ?_⟩)))
  have e7 : r7 2 = (zx_up r4.2 2 15 r4.1) 2 := h7
  rw [e7]
  exact e5
theorem p_runH {N : Nat} {σ : zS} {τ : zT} (li : LI σ) (ev : EQH σ τ) : zp (zf_X_run N σ) (fun r => JR r.2 ∧ zp (zf_M_run N r.2) (fun s => FM r.2 s.2 → JSZ s.2 ∧ SPA s.2 s.2 ∧ CW s.2)) := by
  intro r er
  have h := p_runZ li ev.1 r er
  have hx := wx_f_X_run (σ0 := σ) FX.rfl' r er
  have h75 : r.2 75 = σ 75 := sh_f_X_run (σ0 := σ) F75.rfl' r er
  have j := sr_hi r er
  refine ⟨h.1, zp_mono h.2 fun s hs fm => ⟨hs fm, spa_m (ev.2.1.of ⟨j 90 (by decide), j 91 (by decide), j 97 (by decide)⟩ ⟨by rw [j 82 (by decide)], by rw [j 82 (by decide)], by rw [j 82 (by decide)], by rw [j 82 (by decide)]⟩) fm, cw_m ?_ fm⟩⟩
  have a13 : r.2 2 13 = σ 2 13 := hx.2 13 (by decide) (by decide) (by decide)
  rcases c_runW r er with e | e | ⟨z, o⟩
  · rw [e]; exact ev.2.2
  · rw [e]
    exact ev.2.2.of ⟨fun q hq => zu_other (by omega), by rw [zu_other (by decide)], by rw [zu_other (by decide)], by rw [zu_other (by decide)]⟩ ⟨by rw [zx_up_same, zu_ne (by decide)], by rw [zx_up_same, zu_ne (by decide)], by rw [zx_up_same, zu_ne (by decide)]⟩ (zu_other (by decide))
  · intro w
    rw [a13] at w
    refine ⟨fun q => absurd (q.symm.trans o) (by decide), fun i hi _ => Or.inl ?_⟩
    rw [h75]
    exact ((ev.2.2 w).1 z).2 i hi
theorem EQH.run {σ r : zS} {τ : zT} (h : EQR σ τ) (f : FM σ r) (k : FM σ r → JSZ r ∧ SPA r r ∧ CW r) : EQH r τ := ⟨⟨h.m f, (k f).1⟩, (k f).2⟩
theorem p_whole18 {N : Nat} {σ : zS} {τ : zT} {x1 : Int32} (li : LI σ) (ev : EQH σ τ) : zp (zf_X_whole N σ x1) (fun r => CW r.2 ∧ zp (zf_M_whole N r.2 x1) (fun s => r.1 = s.1)) := by
  rcases ev.1.2.2 with ⟨a, b⟩ | ⟨l13, a, b, bt⟩
  · unfold zf_X_whole zf_M_whole
    exact zp_ite (fun q => absurd a q) fun _ => zp_some ⟨ev.2.2, zp_ite (fun q => absurd b q) fun _ => zp_some rfl⟩
  have a15 : ¬ σ 2 15 = 0 := by rw [a]; decide
  have b53 : ¬ σ 82 53 = 0 := by rw [b]; decide
  obtain ⟨b21, pr⟩ : σ 82 21 = 1 ∧ PRW σ σ := by
    rcases ev.1.1.1.1.2.2.2 with ⟨k, _⟩ | ⟨_, k1, k2⟩
    · exact absurd (k.symm.trans l13) (by decide)
    · exact ⟨k1, k2⟩
  have pg : PG σ := li.gm.pg (by rw [b21]; decide)
  have sps : σ 4 3 = σ 82 25 := by
    obtain ⟨c, len, _, _, _, _, _, k, _⟩ := pr
    exact k
  obtain ⟨ns0, ns6⟩ := pg.ns
  have inM : ∀ (ν : zS) (x : Int32), zp (zf_M_in ν x 0 (σ 82 25 - 1)) (fun r => (r = 1 ∧ 0 ≤ x ∧ x < σ 82 25) ∨ (r = 0 ∧ ¬ (0 ≤ x ∧ x < σ 82 25))) := fun ν x => zp_mono p_M_in2 fun r h => by
    obtain ⟨k, hk, ek⟩ := z_ex (x := σ 82 25) (m := 7) (by omega) ns0 (Int32.lt_of_le_of_lt ns6 (by decide))
    have key : (0 ≤ x ∧ x ≤ σ 82 25 - 1) ↔ (0 ≤ x ∧ x < σ 82 25) := by
      rw [ek]
      have a1 : (Int32.ofNat k).toInt = (k : Int) := zo_ti (by omega)
      have a2 : (Int32.ofNat k - 1).toInt = (k : Int) - 1 := by
        have q : ∀ k : Fin 7, (Int32.ofNat k.val - 1).toInt = (k.val : Int) - 1 := by decide
        exact q ⟨k, hk⟩
      constructor
      · intro h
        have q := Int32.le_iff_toInt_le.mp h.2
        rw [a2] at q
        exact ⟨h.1, Int32.lt_iff_toInt_lt.mpr (by rw [a1]; omega)⟩
      · intro h
        have q := Int32.lt_iff_toInt_lt.mp h.2
        rw [a1] at q
        exact ⟨h.1, Int32.le_iff_toInt_le.mpr (by rw [a2]; omega)⟩
    rcases h with ⟨e, h1, h2⟩ | ⟨e, n⟩
    · exact Or.inl ⟨e, key.mp ⟨h1, h2⟩⟩
    · exact Or.inr ⟨e, fun q => n (key.mpr q)⟩
  have refO : ∀ x : Int32, ¬ (0 ≤ x ∧ x < σ 82 25) → zp (zf_M_whole N σ x) (fun s => (-102 : Int32) = s.1) := fun x n => by
    unfold zf_M_whole
    refine zp_ite (fun _ => zp_bind (zp_mono (inM _ x) fun r2 h2 => ?_)) fun q => absurd b53 q
    rcases h2 with ⟨_, h⟩ | ⟨e, _⟩
    · exact absurd h n
    · exact zp_ite (fun q => absurd e q) fun _ => zp_some rfl
  by_cases c0 : x1 < 0
  · unfold zf_X_whole
    exact zp_ite (fun _ => zp_ite (fun _ => zp_some ⟨ev.2.2, refO x1 fun h => absurd c0 (Int32.not_lt.mpr h.1)⟩) fun q => absurd c0 q) fun q => absurd a15 q
  by_cases c1 : σ 4 3 ≤ x1
  · unfold zf_X_whole
    exact zp_ite (fun _ => zp_ite (fun q => absurd q c0) fun _ => zp_ite (fun _ => zp_some ⟨ev.2.2, refO x1 fun h => absurd h.2 (by rw [← sps]; exact Int32.not_lt.mpr c1)⟩) fun q => absurd c1 q) fun q => absurd a15 q
  have x6 : x1 < 6 := Int32.lt_of_lt_of_le (Int32.not_le.mp c1) (by rw [sps]; exact ns6)
  obtain ⟨i, i6, ei⟩ := z_ex (m := 6) (by omega) (Int32.not_lt.mp c0) x6
  subst ei
  have lt : Int32.ofNat i < σ 4 3 := Int32.not_le.mp c1
  have lt' : Int32.ofNat i < σ 82 25 := by rw [← sps]; exact lt
  obtain ⟨sp, wk, fv, ns, fd⟩ := ev.1.1.2 l13
  obtain ⟨sf, _⟩ := ev.1.2.1 l13
  obtain ⟨m, len, nc, pc, c0', c6, e40, e15, h0⟩ := PC.mk pr pg wk.1 wk.2 ns
  have sta := STA.mk pc wk.2 sp h0
  have m4 := pc.1.1
  have nwr : NWR m len c0' σ := fun t z f ht hz k7 hf f6 e => by
    have l24 := (pc.2.1 t ht).1
    have k := (sf.1 t z (by omega) (by omega) (by rw [(pc.2.1 t ht).2.1]; exact (zo_lt (by omega) (by omega)).mpr hz) (Or.inr k7)).2
    rw [e, e40] at k
    have := (zo_lt (k := f) (j := c0') (by omega) (by omega)).mp k
    omega
  have s97 : ∀ t z, t < m → z < len t → σ 97 (24 * t + z) = σ 12 (24 * t + z) := fun t z ht hz => by
    obtain ⟨c, len', c4, cs, lens, _, _, _, row, _⟩ := pr
    have mc : m = c 2 := zo_inj (by omega) (by omega) (pc.1.2.1.symm.trans (cs 2 (by decide)).1)
    have lc : len t = len' t := by
      have p := (pc.2.1 t ht).2.1
      have q := lens t (by omega)
      exact zo_inj (by have := (pc.2.1 t ht).1; omega) (by have := q.1; omega) (p.symm.trans q.2.1)
    exact (row t z (by omega) (by omega)).2.2.2.2.2.2.2.symm
  obtain ⟨o, om, e91⟩ : ∃ o, o < m ∧ σ 91 i = Int32.ofNat o := by
    have k := pg.sp (Int32.ofNat i) ((zo_le (k := 0) (j := i) (by omega) (by omega)).mpr (Nat.zero_le _)) lt'
    rw [zo_n (m := i) (by omega), pc.1.2.2] at k
    exact z_ex (m := m) (by omega) k.1 k.2
  have so : SPO o m len σ (Int32.ofNat i) := by
    refine ⟨om, zo_ne (by omega), fun t z ht hz e => ?_⟩
    have l24 := (pc.2.1 t ht).1
    rw [← s97 t z ht hz] at e
    have k := (ev.2.1.1 t z i (by omega) (by rw [pc.1.2.2]; exact (zo_lt (by omega) (by omega)).mpr ht) (by omega) (by rw [(pc.2.1 t ht).2.2]; exact (zo_lt (by omega) (by omega)).mpr hz) i6 e).2
    exact zo_inj (by omega) (by omega) (k.symm.trans e91)
  refine zp_mono (c_wholeF (N := N) (o := o) pc (fun _ _ _ => rfl) om i6 lt a15) fun r hr => ?_
  obtain ⟨fr, f75, r1, old, new⟩ := hr
  have ca : CWA σ r.2 := ⟨fun q hq => fr q (by omega), by rw [fr 82 (by omega)], by rw [fr 82 (by omega)], by rw [fr 82 (by omega)]⟩
  have ci : CWI σ i (r.2 75 i) := by
    by_cases c : σ 75 i = -1
    · intro N' ν ha hb h53
      have w := new c
      rw [r1] at w
      obtain ⟨ρ', m', len', nc', n', P', Q', h1, h2, h3, h4, h5, h7, ⟨_, _, _, ⟨cc, cc6, oa, _, oc, o15, oz⟩⟩, h6⟩ := hb
      have rows : ∀ q, 4 ≤ q → q ≤ 16 → ν q = σ q := fun q x y => ha.1 q (by omega)
      have mm : m' = m := by
        have q := h2.1.2.1
        rw [← h1 4 (by decide) (by decide), rows 4 (by decide) (by decide)] at q
        exact zo_inj (by have := h2.1.1; omega) (by omega) (q.symm.trans pc.1.2.1)
      have cce : cc = c0' := zo_inj (by omega) (by omega) (o15.symm.trans (ha.2.1.trans e15))
      subst mm cce
      exact m_wholeF so i6 (by rw [ha.2.2.2]; exact lt') (by rw [ha.2.2.2]; exact ns6) (by rw [ha.1 91 (by omega)]; exact e91) (by rw [ha.1 97 (by omega)]; exact s97) h53 (pc.q (fun q hq => ha.1 q (by omega)) ha.2.2.1) (fv.of rfl rfl (ha.1 89 (by omega))) e40 (ha.2.1.trans e15) sta nwr ⟨cc6, h3, oa, oc, oz, fun j hj => (h6 j hj).1.1⟩ (by rw [ha.1 59 (by omega), ha.1 60 (by omega)]; exact w)
    · rw [old c]
      exact (((ev.2.2 l13).2 i i6 lt').resolve_left c)
  have cw : CW r.2 := fun w => by
    obtain ⟨k1, k2⟩ := ev.2.2 l13
    refine ⟨fun z => ?_, fun j hj ltj => ?_⟩
    · rw [fr 2 (by omega)] at z
      exact absurd (k1 z).1 a15
    · by_cases c : j = i
      · rw [c]
        exact Or.inr (ci.of ca)
      · rw [f75 j c]
        rw [fr 82 (by omega)] at ltj
        rcases k2 j hj ltj with k | k
        · exact Or.inl k
        · exact Or.inr (k.of ca)
  refine ⟨cw, zp_mono (ci N r.2 ca (bt.of (fun q hq => fr q (by omega)) ⟨by rw [fr 82 (by omega)], by rw [fr 82 (by omega)], by rw [fr 82 (by omega)], by rw [fr 82 (by omega)]⟩ ⟨fun j _ => by rw [fr 108 (by omega)], fun q x y => fr q (by omega)⟩) (by rw [fr 82 (by omega)]; exact b)) fun s hs => ?_⟩
  rw [r1]
  exact hs.symm
