-- both answer alike
set_option maxRecDepth 2000
def FLG (ρ μ : zS) : Prop := (∀ f, f < 6 → Int32.ofNat f < ρ 4 0 → (bit (ρ 4 6) f ↔ ¬ μ 88 f = 0)) ∧ (∀ f, f < 24 → ¬ Int32.ofNat f < ρ 4 0 → ¬ bit (ρ 4 6) f)
theorem FLG.of {ρ μ r s : zS} (h : FLG ρ μ) (e0 : r 4 0 = ρ 4 0) (e6 : r 4 6 = ρ 4 6) (e8 : s 88 = μ 88) : FLG r s := by
  unfold FLG at *
  rw [e0, e6, e8]
  exact h
theorem FLG.add {ρ μ r s : zS} {k : Nat} {o v : Int32} (h : FLG ρ μ) (e0 : ρ 4 0 = Int32.ofNat k) (hk : k < 6) (f0 : r 4 0 = ρ 4 0 + 1) (f6 : r 4 6 = if o = 0 then ρ 4 6 else ρ 4 6 ||| zJ_shl 1 (ρ 4 0)) (f8 : s 88 = zu (μ 88) k v) (ov : o = 0 ↔ v = 0) : FLG r s := by
  have e1 : r 4 0 = Int32.ofNat (k + 1) := by rw [f0, e0, zo_1 (by omega)]
  obtain ⟨h1, h2⟩ := h
  have old : ∀ f, f < 24 → f ≠ k → (bit (r 4 6) f ↔ bit (ρ 4 6) f) := fun f hf ne => by
    rw [f6]
    by_cases c : o = 0
    · rw [if_pos c]
    · rw [if_neg c, bit_or hf, e0, bit_shl (by omega) hf]
      exact ⟨fun w => w.resolve_right ne, Or.inl⟩
  have nk : ¬ bit (ρ 4 6) k := h2 k (by omega) (by rw [e0]; exact fun w => absurd ((zo_lt (by omega) (by omega)).mp w) (Nat.lt_irrefl _))
  have new : bit (r 4 6) k ↔ ¬ o = 0 := by
    rw [f6]
    by_cases c : o = 0
    · rw [if_pos c]
      exact ⟨fun w => absurd w nk, fun w => absurd c w⟩
    · rw [if_neg c, bit_or (by omega), e0, bit_shl (by omega) (by omega)]
      exact ⟨fun _ => c, fun _ => Or.inr rfl⟩
  refine ⟨fun f hf lt => ?_, fun f hf nl => ?_⟩
  · rw [e1] at lt
    have lt := (zo_lt (by omega) (by omega)).mp lt
    rw [f8]
    by_cases c : f = k
    · rw [c, new, zu_eq, ov]
    · rw [old f (by omega) c, zu_ne c]
      exact h1 f hf (by rw [e0]; exact (zo_lt (by omega) (by omega)).mpr (by omega))
  · rw [e1] at nl
    have nl : ¬ f < k + 1 := fun w => nl ((zo_lt (by omega) (by omega)).mpr w)
    rw [old f hf (by omega)]
    exact h2 f hf (by rw [e0]; exact fun w => by have := (zo_lt (k := f) (j := k) (by omega) (by omega)).mp w; omega)
theorem c_fail {σ : zS} {x : Int32} (hx : ¬ x = 0) : zp (zf_Reader_failHere σ x) (fun r => r.1 = 0 ∧ ¬ r.2 17 6 = 0 ∧ r.2 4 = σ 4) := zp_mono (zp_and (p_X_fail hx) y_fail) fun r h => ⟨h.1.1, h.1.2.1, h.2.2 4 (by decide)⟩
theorem c_tellName {N : Nat} {σ : zS} {τ : zT} {x1 x2 x3 : Int32} : zp (zf_Reader_tellName N σ τ x1 x2 x3) (fun r => (r.1 = 0 → ¬ r.2.1 17 6 = 0) ∧ (¬ r.1 = 0 → x2 < x3) ∧ r.2.1 4 = σ 4) := by
  unfold zf_Reader_tellName
  have F : ∀ k : Int32, ¬ k = 0 → zp ((zf_Reader_failHere σ k).bind fun r7 => if r7.1 = 0 ∨ r7.1 = 1 then some (r7.1, r7.2, τ) else none) (fun r => (r.1 = 0 → ¬ r.2.1 17 6 = 0) ∧ (¬ r.1 = 0 → x2 < x3) ∧ r.2.1 4 = σ 4) := fun k hk => zp_bind (zp_mono (c_fail hk) fun r h => zp_chk fun _ => zp_some ⟨fun _ => h.2.1, fun w => absurd h.1 w, h.2.2⟩)
  have T : zp (zf_Names_tell σ τ (τ 25 9) x1 x2) (fun r => r.1 4 = σ 4) := by
    unfold zf_Names_tell
    refine zp_ite (fun _ => zp_some rfl) fun _ => zp_ite (fun _ => zp_some rfl) fun _ => zp_chk fun _ => zp_chk fun _ => zp_chk fun _ => zp_some ?_
    dsimp only
    rw [zu_other (by decide), zu_other (by decide), zu_other (by decide)]
  refine zp_ite (fun _ => zp_bind fun r2 _ => zp_ite (fun _ => zp_ite (fun lt => zp_bind (zp_mono T fun r5 h5 => zp_bind (zp_mono y_adv fun r6 h6 => zp_some ⟨fun w => absurd (show (1 : Int32) = 0 from w) (by decide), fun _ => lt, ?_⟩))) fun _ => F 4 (by decide)) fun _ => F 3 (by decide)) fun _ => F 2 (by decide)
  dsimp only
  rw [h6 4 (by decide)]
  exact h5
theorem c_expect {σ : zS} {τ : zT} {x : Int32} : zp (zf_Reader_expect σ τ x) (fun r => (r.1 = 0 → ¬ r.2.1 17 6 = 0) ∧ r.2.1 4 = σ 4) := by
  unfold zf_Reader_expect
  exact zp_ite (fun _ => zp_bind (zp_mono y_adv fun r2 h2 => zp_some ⟨fun w => absurd (show (1 : Int32) = 0 from w) (by decide), h2 4 (by decide)⟩)) fun _ => zp_bind (zp_mono (c_fail (by decide)) fun r h => zp_chk fun _ => zp_some ⟨fun _ => h.2.1, h.2.2⟩)
theorem c_addField {ρ : zS} {x y : Int32} : zp (zf_Program_addField ρ x y) (fun r => r 4 0 = ρ 4 0 + 1 ∧ r 4 6 = if y = 0 then ρ 4 6 else ρ 4 6 ||| zJ_shl 1 (ρ 4 0)) := by
  unfold zf_Program_addField zb_Program_addField_36
  refine zp_ite (fun c => zp_some ⟨?_, ?_⟩) fun c => zp_some ⟨?_, ?_⟩
  · rw [zx_up_same, zu_eq, zx_up_same, zu_ne (by decide)]
  · rw [if_pos c, zx_up_same, zu_ne (by decide), zx_up_same, zu_ne (by decide)]
  · rw [zx_up_same, zu_eq, zx_up_same, zu_ne (by decide), zx_up_same, zu_ne (by decide)]
  · rw [if_neg c, zx_up_same, zu_ne (by decide), zx_up_same, zu_eq]
theorem c_field {N : Nat} {ρ : zS} {τ : zT} {o : Int32} : zp (zf_Reader_tellField N ρ τ o) (fun r => r.1 17 6 = 0 → ρ 4 0 < 6 ∧ r.1 4 0 = ρ 4 0 + 1 ∧ r.1 4 6 = if o = 0 then ρ 4 6 else ρ 4 6 ||| zJ_shl 1 (ρ 4 0)) := by
  unfold zf_Reader_tellField
  refine zp_bind (zp_mono y_adv fun r1 h1 => zp_bind (zp_mono c_tellName fun r2 h2 => ?_))
  have e1 : r1.1 4 = ρ 4 := h1 4 (by decide)
  have A : ∀ (ρ5 : zS) (τ5 : zT) (v : Int32), ¬ r2.1 = 0 → ρ5 4 = ρ 4 → zp (zb_Reader_tellField_64 N ρ5 τ5 o v) (fun r => r.1 17 6 = 0 → ρ 4 0 < 6 ∧ r.1 4 0 = ρ 4 0 + 1 ∧ r.1 4 6 = if o = 0 then ρ 4 6 else ρ 4 6 ||| zJ_shl 1 (ρ 4 0)) := fun ρ5 τ5 v nz e5 => by
    unfold zb_Reader_tellField_64
    refine zp_bind (zp_mono c_expect fun r5 h5 => zp_ite (fun z => zp_some fun w => absurd w (h5.1 z)) fun _ => zp_bind (zp_mono c_addField fun r7 h7 => zp_some fun _ => ?_))
    have e := h5.2.trans e5
    rw [e] at h7
    have lt := h2.2.1 nz
    rw [e1] at lt
    exact ⟨lt, h7⟩
  refine zp_ite (fun nz => zp_ite (fun _ => A _ _ _ nz (h2.2.2.trans e1)) fun _ => zp_bind (zp_mono y_adv fun r8 h8 => zp_bind (zp_mono c_expect fun r9 h9 => zp_ite (fun _ => A _ _ _ nz ?_) fun z => zp_some fun w => absurd w (h9.1 (Classical.not_not.mp z))))) fun z => zp_some fun w => absurd w (h2.1 (Classical.not_not.mp z))
  rw [h9.2, h8 4 (by decide)]
  exact h2.2.2.trans e1
theorem c_lock {N : Nat} {ρ : zS} {τ : zT} : zp (zf_Reader_tellLock N ρ τ) (fun r => r.1 4 0 = ρ 4 0 ∧ r.1 4 6 = ρ 4 6) := by
  unfold zf_Reader_tellLock
  refine zp_bind (zp_mono y_adv fun r1 h1 => zp_bind (zp_mono c_tellName fun r2 h2 => ?_))
  have e2 : r2.2.1 4 = ρ 4 := h2.2.2.trans (h1 4 (by decide))
  refine zp_ite (fun _ => zp_some ⟨congrFun e2 0, congrFun e2 6⟩) fun _ => zp_bind (zp_mono c_expect fun r4 h4 => ?_)
  have e4 := h4.2.trans e2
  refine zp_ite (fun _ => zp_some ⟨congrFun e4 0, congrFun e4 6⟩) fun _ => zp_some ⟨?_, ?_⟩
  · dsimp only
    rw [zx_up_same, zu_ne (by decide), e4]
  · dsimp only
    rw [zx_up_same, zu_ne (by decide), e4]
theorem c_thread {N : Nat} {ρ : zS} {τ : zT} : zp (zf_Reader_tellThread N ρ τ) (fun r => r.1 4 0 = ρ 4 0 ∧ r.1 4 6 = ρ 4 6 ∧ (¬ r.1 17 6 = 0 ∨ (r.1 4 2 = ρ 4 2 + 1 ∧ ρ 4 2 < 4))) := by
  unfold zf_Reader_tellThread
  refine zp_bind (zp_mono y_adv fun r1 h1 => zp_bind (zp_mono c_tellName fun r2 h2 => ?_))
  have e1 : r1.1 4 = ρ 4 := h1 4 (by decide)
  have e2 : r2.2.1 4 = ρ 4 := h2.2.2.trans e1
  refine zp_ite (fun z => zp_some ⟨congrFun e2 0, congrFun e2 6, Or.inl (h2.1 z)⟩) fun nz => ?_
  have lt := h2.2.1 nz
  rw [e1] at lt
  have fl : zp (zf_Names_forgetLocals r2.2.1) (fun r => r 4 = ρ 4) := by
    unfold zf_Names_forgetLocals
    exact zp_some ((zu_other (by decide)).trans e2)
  refine zp_bind (zp_mono fl fun r4 h4 => ?_)
  have bt : zp (zf_Weaver_beginThread r4 (r4 4 2)) (fun r => r 4 = ρ 4) := by
    unfold zf_Weaver_beginThread
    refine zp_some ?_
    iterate 7 rw [zu_other (by decide)]
    exact h4
  refine zp_bind (zp_mono bt fun r5 h5 => zp_bind (zp_mono (wf_f_Reader_openBlock (σ0 := zx_up r5 4 2 ((r5 4 2) + 1)) fun _ _ _ => rfl) fun r6 h6 => zp_some ⟨?_, ?_, Or.inr ⟨?_, lt⟩⟩))
  · dsimp only
    rw [h6 0 (by decide) (by decide), zx_up_same, zu_ne (by decide), h5]
  · dsimp only
    rw [h6 6 (by decide) (by decide), zx_up_same, zu_ne (by decide), h5]
  · dsimp only
    rw [h6 2 (by decide) (by decide), zx_up_same, zu_eq, h5]
theorem m_field {N : Nat} {μ : zS} {x : Int32} : zp (zf_M_readField N μ x) (fun s => s 82 9 = 0 → s 88 = zu (μ 88) (μ 82 15).toNatClampNeg (x &&& 1)) := by
  unfold zf_M_readField
  have e86 : ∀ ν : zS, ν 88 = zu (μ 88) (μ 82 15).toNatClampNeg (x &&& 1) → zp (zb_M_readField_86 N ν) (fun s => s 82 9 = 0 → s 88 = zu (μ 88) (μ 82 15).toNatClampNeg (x &&& 1)) := fun ν h => by
    unfold zb_M_readField_86
    refine zp_bind (zp_mono (wh_f_M_take (σ0 := zx_up ν 82 15 ((ν 82 15) + 1)) ⟨rfl, rfl⟩) fun r8 h8 => zp_some fun _ => ?_)
    rw [h8.1, zu_other (by decide)]
    exact h
  refine zp_bind (zp_mono (wh_f_M_next (σ0 := μ) ⟨rfl, rfl⟩) fun r1 h1 => zp_bind (zp_mono (wh_f_M_readTold (σ0 := μ) h1) fun r2 h2 => zp_ite (fun _ => zp_chk fun _ => zp_chk fun _ => ?_) fun q => zp_some fun w => absurd w q))
  rw [h2.2]
  have s8 : (zx_up (zx_up r2 88 (μ 82 15).toNatClampNeg (x &&& 1)) 89 (μ 82 15).toNatClampNeg 0) 88 = zu (μ 88) (μ 82 15).toNatClampNeg (x &&& 1) := by rw [zu_other (by decide), zx_up_same, h2.1]
  generalize (zx_up (zx_up r2 88 (μ 82 15).toNatClampNeg (x &&& 1)) 89 (μ 82 15).toNatClampNeg 0) = S at *
  refine zp_bind fun r6 _ => zp_ite (fun _ => e86 _ s8) fun _ => zp_bind (zp_mono (wh_f_M_next (σ0 := S) ⟨rfl, rfl⟩) fun r9 h9 => zp_chk fun _ => zp_ite (fun _ => zp_bind (zp_mono (wh_f_M_next (σ0 := zx_up r9 89 (r9 82 15).toNatClampNeg (r9 82 8)) ⟨rfl, rfl⟩) fun r12 h12 => e86 _ ?_)) fun _ => zp_bind (zp_mono (wh_f_M_cannot (σ0 := zx_up r9 89 (r9 82 15).toNatClampNeg (r9 82 8)) ⟨rfl, rfl⟩) fun r13 h13 => zp_some fun _ => ?_))
  · rw [h12.1, zu_other (by decide), h9.1]
    exact s8
  · rw [h13.1, zu_other (by decide), h9.1]
    exact s8
theorem m_136 {N : Nat} {μ : zS} {k : zS → Option (Int32 × zS)} {Q R : Int32 × zS → Prop} {P : zS → Prop} (h3 : zp (zf_M_isWord μ 3) (fun u => ¬ u = 0)) (h : ∀ {Q : Int32 × zS → Prop} (k : zS → Option (Int32 × zS)), (∀ s, P s → zp (k s) Q) → zp (zb_M_read_136 k N μ) Q) (kk : ∀ s, P s → s 88 = μ 88 → zp (k s) R) : zp (zb_M_read_136 k N μ) R := by
  have g : zp (zb_M_read_136 (fun s => some ((0 : Int32), s)) N μ) (fun p => P p.2 ∧ p.2 88 = μ 88) := by
    refine zp_and (h _ fun s hs => zp_some hs) ?_
    unfold zb_M_read_136 zb_M_read_180
    have T : ∀ (r : zS) (x : Int32), F8 μ r → zp ((zf_M_take N (zx_up r 82 16 x) 59).bind fun r26 => some ((0 : Int32), r26)) (fun p => p.2 88 = μ 88) := fun r x hr => zp_bind (zp_mono (wh_f_M_take (σ0 := μ) (F8.u2 (by decide) hr)) fun r26 h26 => zp_some h26.1)
    exact zp_bind (zp_mono h3 fun u hu => zp_ite (fun z => absurd z hu) fun _ => zp_bind (zp_mono (wh_f_M_next (σ0 := μ) ⟨rfl, rfl⟩) fun r23 h23 => zp_bind (zp_mono (wh_f_M_readTold (σ0 := μ) h23) fun r24 h24 => zp_ite (fun _ => T _ _ h24) fun _ => T _ _ h24)))
  have b : zb_M_read_136 k N μ = (zb_M_read_136 (fun s => some ((0 : Int32), s)) N μ).bind fun p => k p.2 := by
    unfold zb_M_read_136 zb_M_read_180
    cases zf_M_isWord μ 3 with
    | none => rfl
    | some u =>
      show (if u = 0 then _ else _) = Option.bind (if u = 0 then _ else _) _
      by_cases c : u = 0
      · rw [if_pos c, if_pos c]
        cases zf_M_isWord μ 2 with
        | none => rfl
        | some w =>
          show Option.bind (zf_M_readField N μ w) _ = Option.bind (Option.bind (zf_M_readField N μ w) _) _
          cases zf_M_readField N μ w with
          | none => rfl
          | some z => rfl
      · rw [if_neg c, if_neg c]
        cases zf_M_next N μ with
        | none => rfl
        | some y =>
          show Option.bind (zf_M_readTold N y 6 (y 82 16) 4) _ = Option.bind (Option.bind (zf_M_readTold N y 6 (y 82 16) 4) _) _
          cases zf_M_readTold N y 6 (y 82 16) 4 with
          | none => rfl
          | some z =>
            show (if z 82 9 = 0 then _ else _) = Option.bind (if z 82 9 = 0 then _ else _) _
            by_cases d : z 82 9 = 0
            · rw [if_pos d, if_pos d]
              cases zf_M_take N (zx_up z 82 16 ((z 82 16) + 1)) 59 with
              | none => rfl
              | some v => rfl
            · rw [if_neg d, if_neg d]
              cases zf_M_take N (zx_up z 82 16 (z 82 16)) 59 with
              | none => rfl
              | some v => rfl
  rw [b]
  exact zp_bind (zp_mono g fun p hp => kk p.2 hp.1 hp.2)
