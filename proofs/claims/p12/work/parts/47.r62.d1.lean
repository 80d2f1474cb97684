-- both answer alike
set_option maxRecDepth 2000
def SLV (c2 : Nat) (len : Nat → Nat) (v : Nat) : Prop := v / 24 < c2 ∧ v % 24 < len (v / 24)
def CLS (σ : zS) (v w : Nat) : Prop := (σ 7 v = 0 ∨ σ 7 v = 1) ∧ (σ 7 w = 0 ∨ σ 7 w = 1) ∧ (σ 7 v = 1 ∨ σ 7 w = 1) ∧ σ 8 v = σ 8 w ∧ ¬ bit (σ 4 6) (σ 8 v).toNatClampNeg
def DBT (σ : zS) (c2 : Nat) (len : Nat → Nat) (v w : Nat) : Prop := SLV c2 len v ∧ SLV c2 len w ∧ CLS σ v w ∧ σ 11 v &&& σ 11 w = 0 ∧ NEA σ len (v / 24) (w / 24) (v % 24) ∧ NEA σ len (w / 24) (v / 24) (w % 24)
def AN2 (P : Prop) (r : Int32) : Prop := (r = 0 ∨ r = 1) ∧ (r = 1 ↔ P)
theorem AN2.y {P : Prop} {r : Int32} (h : AN2 P r) (n : ¬ r = 0) : P := h.2.mp (h.1.resolve_left n)
theorem AN2.n {P : Prop} {r : Int32} (h : AN2 P r) (z : r = 0) : ¬ P := fun p => absurd (z.symm.trans (h.2.mpr p)) (by decide)
theorem AN2.z {P : Prop} (h : ¬ P) : AN2 P 0 := ⟨Or.inl rfl, fun e => absurd e (by decide), fun p => absurd p h⟩
theorem AN2.o {P : Prop} (h : P) : AN2 P 1 := ⟨Or.inr rfl, fun _ => h, fun _ => rfl⟩
def FLD (σ : zS) : Prop := SLT σ ∧ FLG σ σ ∧ σ 4 0 ≤ 6
theorem slv_rows {σ : zS} {c2 : Nat} {len : Nat → Nat} {v : Nat} (pj : PJ σ c2 len) (s : SLV c2 len v) : ROW σ σ v ∧ v < 96 := by
  have ev : 24 * (v / 24) + v % 24 = v := by omega
  have k := (pj.2.2.2.2.1 _ s.1 _ s.2).1
  rw [ev] at k
  have := pj.1
  have := s.1
  exact ⟨k, by omega⟩
theorem slv_fld {σ : zS} {c2 : Nat} {len : Nat → Nat} {v : Nat} (pj : PJ σ c2 len) (fd : FLD σ) (s : SLV c2 len v) (k : σ 7 v = 0 ∨ σ 7 v = 1) : 0 ≤ σ 8 v ∧ (σ 8 v).toNatClampNeg < 6 ∧ Int32.ofNat (σ 8 v).toNatClampNeg = σ 8 v ∧ σ 8 v < σ 4 0 ∧ σ 93 v = σ 8 v := by
  have ev : 24 * (v / 24) + v % 24 = v := by omega
  have l24 := (pj.2.2.1 _ s.1).1
  have c4 := pj.1
  have h := fd.1 (v / 24) (v % 24) (by have := s.1; omega) (by omega) (by rw [(pj.2.2.1 _ s.1).2.1]; exact (zo_lt (by have := s.2; omega) (by omega)).mpr s.2) (by rw [ev]; exact k)
  rw [ev] at h
  have n := z_nat h.1
  have b1 := Int32.lt_iff_toInt_lt.mp h.2
  have b2 := Int32.le_iff_toInt_le.mp fd.2.2
  have k6 : (6 : Int32).toInt = 6 := rfl
  have row := (slv_rows pj s).1
  refine ⟨h.1, by omega, zo_mk h.1, h.2, (row.2.1 ?_).symm⟩
  rw [← row.1]
  rcases k with k | k
  · exact Or.inl k
  · exact Or.inr (Or.inl k)
theorem slv_no {σ : zS} {c2 : Nat} {len : Nat → Nat} {v : Nat} (pj : PJ σ c2 len) (s : SLV c2 len v) (n1 : ¬ 1 < σ 7 v) (n0 : ¬ (σ 7 v = 0 ∨ σ 7 v = 1)) : σ 8 v = -1 := by
  have row := (slv_rows pj s).1
  refine row.2.2.1 fun nm => ?_
  rw [← row.1] at nm
  unfold named at nm
  have big : ∀ k : Int32, σ 7 v = k → 1 < k → False := fun k e l => n1 (by rw [e]; exact l)
  rcases nm with e | e | e | e | e | e | e | e | e
  · exact n0 (Or.inl e)
  · exact n0 (Or.inr e)
  · exact big _ e (by decide)
  · exact big _ e (by decide)
  · exact big _ e (by decide)
  · exact big _ e (by decide)
  · exact big _ e (by decide)
  · exact big _ e (by decide)
  · exact big _ e (by decide)
theorem p_clash {σ : zS} {c2 : Nat} {len : Nat → Nat} {v w : Nat} (pj : PJ σ c2 len) (fd : FLD σ) (sv : SLV c2 len v) (sw : SLV c2 len w) : zp (zf_Program_clash σ (Int32.ofNat v) (Int32.ofNat w)) (fun r => AN2 (CLS σ v w) r) := by
  have bv := (slv_rows pj sv).2
  have bw := (slv_rows pj sw).2
  unfold zf_Program_clash zb_Program_clash_53
  rw [zo_n (m := v) (by omega), zo_n (m := w) (by omega)]
  have A : ∀ v4 s0 : Int32, (¬ v4 = 0 → ¬ 1 < σ 7 v ∧ ¬ 1 < σ 7 w) → (v4 = 0 → 1 < σ 7 v ∨ 1 < σ 7 w) → (s0 = 0 ↔ ¬ (σ 7 v = 1 ∨ σ 7 w = 1)) → zp (zb_Program_clash_81 σ (Int32.ofNat w) (σ 8 v) v4 s0) (fun r => AN2 (CLS σ v w) r) := by
    intro v4 s0 h1 h2 h3
    unfold zb_Program_clash_81
    rw [zo_n (m := w) (by omega)]
    have low : ∀ x : Int32, 1 < x → (x = 0 ∨ x = 1) → False := fun x l e => by
      rcases e with e | e <;> rw [e] at l <;> exact absurd l (by decide)
    refine zp_ite (fun z => zp_some (AN2.z fun c => (h2 z).elim (fun l => low _ l c.1) fun l => low _ l c.2.1)) fun n4 => zp_ite (fun z => zp_some (AN2.z fun c => h3.mp z c.2.2.1)) fun n0 => zp_chk fun _ => zp_ite (fun ne => zp_some (AN2.z fun c => ne c.2.2.2.1)) fun eq => ?_
    have eq := Classical.not_not.mp eq
    obtain ⟨l1, l2⟩ := h1 n4
    have one : σ 7 v = 1 ∨ σ 7 w = 1 := Classical.byContradiction fun k => n0 (h3.mpr k)
    have both : (σ 7 v = 0 ∨ σ 7 v = 1) ∧ (σ 7 w = 0 ∨ σ 7 w = 1) := by
      have kv : σ 7 v = 0 ∨ σ 7 v = 1 := Classical.byContradiction fun k => by
        have e := slv_no pj sv l1 k
        have kw : σ 7 w = 1 := one.resolve_left fun e => k (Or.inr e)
        have f := (slv_fld pj fd sw (Or.inr kw)).1
        rw [← eq, e] at f
        exact absurd f (by decide)
      refine ⟨kv, Classical.byContradiction fun k => ?_⟩
      have e := slv_no pj sw l2 k
      have f := (slv_fld pj fd sv kv).1
      rw [eq, e] at f
      exact absurd f (by decide)
    have ln := (slv_fld pj fd sv both.1).2.2.1
    have B : ((zJ_ushr (σ 4 6) (σ 8 v)) &&& 1) = 0 ↔ ¬ bit (σ 4 6) (σ 8 v).toNatClampNeg := by
      unfold bit
      rw [ln]
      exact ⟨fun h k => k h, fun h => Classical.not_not.mp h⟩
    exact zp_ite (fun nb => zp_some (AN2.z fun c => nb (B.mpr c.2.2.2.2))) fun yb => zp_some (AN2.o ⟨both.1, both.2, one, eq, B.mp (Classical.not_not.mp yb)⟩)
  have C : ∀ s0 : Int32, (¬ s0 = 0 → ¬ 1 < σ 7 v ∧ ¬ 1 < σ 7 w) → (s0 = 0 → 1 < σ 7 v ∨ 1 < σ 7 w) → zp (zb_Program_clash_54 σ (Int32.ofNat v) (Int32.ofNat w) (σ 8 v) s0) (fun r => AN2 (CLS σ v w) r) := by
    intro s0 h1 h2
    unfold zb_Program_clash_54 zb_Program_clash_76
    rw [zo_n (m := v) (by omega), zo_n (m := w) (by omega)]
    exact zp_chk fun _ => zp_ite (fun k => A s0 1 h1 h2 ⟨fun e => absurd e (by decide), fun n => absurd (Or.inl k) n⟩) fun nv => zp_chk fun _ => zp_ite (fun nw => A s0 0 h1 h2 ⟨fun _ k => k.elim nv nw, fun _ => rfl⟩) fun yw => A s0 1 h1 h2 ⟨fun e => absurd e (by decide), fun n => absurd (Or.inr (Classical.not_not.mp yw)) n⟩
  refine zp_ite (fun k => ?_) fun _ => zp_ite (fun k => ?_) fun _ => zp_ite (fun k => ?_) fun _ => zp_ite (fun _ => zp_chk fun _ => zp_chk fun _ => zp_ite (fun l => C 0 (fun n => absurd rfl n) fun _ => Or.inl l) fun l1 => zp_chk fun _ => zp_ite (fun l => C 0 (fun n => absurd rfl n) fun _ => Or.inr l) fun l2 => C 1 (fun _ => ⟨l1, l2⟩) fun e => absurd e (by decide)) fun k => absurd ((zo_lt (k := w) (j := 96) (by omega) (by omega)).mpr bw) k
  · have := (zo_lt (k := v) (j := 0) (by omega) (by omega)).mp k
    omega
  · have := (zo_le (k := 96) (j := v) (by omega) (by omega)).mp k
    omega
  · have := (zo_lt (k := w) (j := 0) (by omega) (by omega)).mp k
    omega
theorem p_isDoubtful {σ : zS} {c2 : Nat} {len : Nat → Nat} {v w : Nat} (pj : PJ σ c2 len) (fd : FLD σ) (nr : ∀ a b, a < c2 → b < 4 → ∀ s, s < 24 → (bit (σ 77 (4 * a + b)) s ↔ NEA σ len a b s)) (hv : v < 96) (hw : w < 96) : zp (zf_Judge_isDoubtful σ (Int32.ofNat (v / 24)) (Int32.ofNat (v % 24)) (Int32.ofNat (w / 24)) (Int32.ofNat (w % 24))) (fun r => AN2 (DBT σ c2 len v w) r) := by
  have hc := pj.1
  have ev : 24 * (v / 24) + v % 24 = v := by omega
  have ew : 24 * (w / 24) + w % 24 = w := by omega
  have val : ∀ u, u < 96 → Int32.ofNat (u % 24) < σ 5 (u / 24) → SLV c2 len u := fun u hu lt => by
    by_cases x : u / 24 < c2
    · have l := (pj.2.2.1 _ x).1
      rw [(pj.2.2.1 _ x).2.1] at lt
      exact ⟨x, (zo_lt (by omega) (by omega)).mp lt⟩
    · rw [pj.2.2.2.1 (u / 24) (by omega) (by omega)] at lt
      have := (zo_lt (k := u % 24) (j := 0) (by omega) (by omega)).mp lt
      omega
  have inv : ∀ u, u < 96 → ¬ Int32.ofNat (u % 24) < σ 5 (u / 24) → ¬ SLV c2 len u := fun u hu nl s => nl (by
    have l := (pj.2.2.1 _ s.1).1
    rw [(pj.2.2.1 _ s.1).2.1]
    exact (zo_lt (by omega) (by omega)).mpr s.2)
  unfold zf_Judge_isDoubtful
  refine zp_bind (zp_mono (p_X_slotOf2 (by omega) (by omega)) fun r1 h1 => zp_bind (zp_mono (p_X_slotOf2 (by omega) (by omega)) fun r2 h2 => ?_))
  rw [ev] at h1
  rw [ew] at h2
  have no : ¬ DBT σ c2 len v w → (r1 = 96 ∨ r2 = 96) → (r1 = 96 ∨ r1 = Int32.ofNat v) → zp ((zf_Program_clash σ r1 r2).bind fun r3 => if r3 = 0 then some (0 : Int32) else if 0 ≤ r1 ∧ r1 < 97 then if 0 ≤ r2 ∧ r2 < 97 then if ¬ ((σ 11 r1.toNatClampNeg) &&& (σ 11 r2.toNatClampNeg)) = 0 then some 0 else (zf_Judge_canMeet σ (Int32.ofNat (v / 24)) (Int32.ofNat (v % 24)) (Int32.ofNat (w / 24)) (Int32.ofNat (w % 24))).bind fun r8 => if r8 = 0 then some 0 else some 1 else none else none) (fun r => AN2 (DBT σ c2 len v w) r) := fun nd e e1 => by
    have cl : zp (zf_Program_clash σ r1 r2) (fun r => r = 0) := by
      unfold zf_Program_clash
      rcases e with e | e
      · rw [e]
        exact zp_ite (fun _ => zp_some rfl) fun _ => zp_ite (fun _ => zp_some rfl) fun k => absurd (by decide) k
      · rw [e]
        exact zp_ite (fun _ => zp_some rfl) fun _ => zp_ite (fun _ => zp_some rfl) fun _ => zp_ite (fun _ => zp_some rfl) fun _ => zp_ite (fun k => absurd k (by decide)) fun _ => zp_some rfl
    refine zp_bind (zp_mono cl fun r3 h3 => ?_)
    rw [h3]
    exact zp_ite (fun _ => zp_some (AN2.z nd)) fun k => absurd rfl k
  rcases h1 with ⟨lv, e1⟩ | ⟨nv, e1⟩
  · rcases h2 with ⟨lw', e2⟩ | ⟨nw, e2⟩
    · have sv := val v hv lv
      have sw := val w hw lw'
      rw [e1, e2, zo_n (m := v) (by omega), zo_n (m := w) (by omega)]
      refine zp_bind (zp_mono (p_clash pj fd sv sw) fun r3 h3 => zp_ite (fun z => zp_some (AN2.z fun d => h3.n z d.2.2.1)) fun y3 => zp_chk fun _ => zp_chk fun _ => zp_ite (fun nd => zp_some (AN2.z fun d => nd d.2.2.2.1)) fun yd => zp_bind (zp_mono (p_canMeet (by omega) (by omega)) fun r8 h8 => ?_))
      rw [nr (v / 24) (w / 24) sv.1 (by omega) (v % 24) (by omega), nr (w / 24) (v / 24) sw.1 (by omega) (w % 24) (by omega)] at h8
      have h8 : AN2 _ r8 := h8
      exact zp_ite (fun z => zp_some (AN2.z fun d => h8.n z d.2.2.2.2)) fun y8 => zp_some (AN2.o ⟨sv, sw, h3.y y3, Classical.not_not.mp yd, h8.y y8⟩)
    · exact no (fun d => inv w hw nw d.2.1) (Or.inr e2) (Or.inr e1)
  · exact no (fun d => inv v hv nv d.1) (Or.inl e1) (Or.inl e1)
theorem p_touches {σ : zS} {v : Nat} (hv : v < 96) : zp (zf_M_touches σ (Int32.ofNat v)) (fun r => AN2 (σ 92 v = 0 ∨ σ 92 v = 1) r) := by
  unfold zf_M_touches zb_M_touches_19
  rw [zo_n (m := v) (by omega)]
  exact zp_chk fun _ => zp_ite (fun k => zp_some (AN2.o (Or.inl k))) fun n0 => zp_chk fun _ => zp_ite (fun n1 => zp_some (AN2.z fun k => k.elim n0 n1)) fun k => zp_some (AN2.o (Or.inr (Classical.not_not.mp k)))
theorem p_isDoubt {N : Nat} {σ : zS} {c2 : Nat} {len : Nat → Nat} {v w : Nat} (pj : PJ σ c2 len) (fd : FLD σ) (sv : SLV c2 len v) (sw : SLV c2 len w) (vw : v / 24 ≠ w / 24) : zp (zf_M_isDoubt N σ (Int32.ofNat v) (Int32.ofNat w)) (fun r => AN2 (DBT σ c2 len v w) r) := by
  obtain ⟨rv, bv⟩ := slv_rows pj sv
  obtain ⟨rww, bw⟩ := slv_rows pj sw
  have hc := pj.1
  have wr : zp (zf_M_wouldRace σ (Int32.ofNat v) (Int32.ofNat w)) (fun r => AN2 (CLS σ v w) r) := by
    unfold zf_M_wouldRace zb_M_wouldRace_65
    refine zp_bind (zp_mono (p_touches bv) fun r1 h1 => zp_ite (fun z => zp_some (AN2.z fun c => h1.n z (by rw [← rv.1]; exact c.1))) fun y1 => zp_bind (zp_mono (p_touches bw) fun r3 h3 => zp_ite (fun z => zp_some (AN2.z fun c => h3.n z (by rw [← rww.1]; exact c.2.1))) fun y3 => ?_))
    have kv : σ 7 v = 0 ∨ σ 7 v = 1 := by rw [rv.1]; exact h1.y y1
    have kw : σ 7 w = 0 ∨ σ 7 w = 1 := by rw [rww.1]; exact h3.y y3
    obtain ⟨_, f6, fe, flt, f93⟩ := slv_fld pj fd sv kv
    obtain ⟨_, _, _, _, g93⟩ := slv_fld pj fd sw kw
    rw [zo_n (m := v) (by omega), zo_n (m := w) (by omega), f93, g93, ← rv.1, ← rww.1]
    have B : ¬ σ 88 (σ 8 v).toNatClampNeg = 0 ↔ bit (σ 4 6) (σ 8 v).toNatClampNeg := (fd.2.1.1 _ f6 (by rw [fe]; exact flt)).symm
    refine zp_chk fun _ => zp_chk fun _ => zp_ite (fun ne => zp_some (AN2.z fun c => ne c.2.2.2.1)) fun eq => zp_chk fun _ => zp_chk fun _ => zp_ite (fun b => zp_some (AN2.z fun c => c.2.2.2.2 (B.mp b))) fun nb => ?_
    have eq := Classical.not_not.mp eq
    have nb' : ¬ bit (σ 4 6) (σ 8 v).toNatClampNeg := fun k => nb (B.mpr k)
    exact zp_chk fun _ => zp_ite (fun k => zp_some (AN2.o ⟨kv, kw, Or.inl k, eq, nb'⟩)) fun nv => zp_chk fun _ => zp_ite (fun nw => zp_some (AN2.z fun c => c.2.2.1.elim nv nw)) fun k => zp_some (AN2.o ⟨kv, kw, Or.inr (Classical.not_not.mp k), eq, nb'⟩)
  have dmv := z_dm96 ⟨v, bv⟩
  have dmw := z_dm96 ⟨w, bw⟩
  dsimp only at dmv dmw
  unfold zf_M_isDoubt
  rw [dmv.1, dmv.2, dmw.1, dmw.2, zo_n (m := v) (by omega), zo_n (m := w) (by omega), ← rv.2.2.2.2.2.2.1, ← rww.2.2.2.2.2.2.1]
  refine zp_bind (zp_mono wr fun r1 h1 => zp_ite (fun z => zp_some (AN2.z fun d => h1.n z d.2.2.1)) fun y1 => zp_chk fun _ => zp_chk fun _ => zp_ite (fun nd => zp_some (AN2.z fun d => nd d.2.2.2.1)) fun yd => zp_bind (zp_mono (p_meets pj sv.1 sw.1 vw sv.2 sw.2) fun r6 h6 => ?_))
  have h6 : AN2 _ r6 := h6
  exact zp_ite (fun z => zp_some (AN2.z fun d => h6.n z d.2.2.2.2)) fun y6 => zp_some (AN2.o ⟨sv, sw, h1.y y1, Classical.not_not.mp yd, h6.y y6⟩)
