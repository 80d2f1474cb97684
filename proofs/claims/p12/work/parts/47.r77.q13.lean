-- both answer alike
set_option maxRecDepth 2000
theorem lst_get {p : Nat → Prop} {S n : Nat} (h : p S) (hn : S < n) : (lst p 0 n)[(lst p 0 S).length]? = some S := by
  rw [show n = S + 1 + (n - (S + 1)) by omega, lst_app, lst_y h, List.append_assoc, List.getElem?_append_right (Nat.le_refl _), Nat.sub_self]
  rfl
def CNT (x v : Int32) (c : Nat) : Prop := 0 ≤ x ∧ 0 ≤ v ∧ v.toInt = x.toInt - (c : Int)
theorem CNT.dec {x v : Int32} {c : Nat} (h : CNT x v c) (nz : ¬ v = 0) : CNT x (v + (-1)) (c + 1) := by
  obtain ⟨h0, h1, h2⟩ := h
  have k : (-1 : Int32).toInt = -1 := rfl
  have z : (0 : Int32).toInt = 0 := rfl
  have v0 := Int32.le_iff_toInt_le.mp h1
  have vn : v.toInt ≠ 0 := fun e => nz (Int32.toInt_inj.mp (by rw [e, z]))
  have vm := z_hi v
  have e := z_ti_add (a := v) (b := -1) (by omega) (by omega)
  exact ⟨h0, Int32.le_iff_toInt_le.mpr (by omega), by omega⟩
theorem CNT.hit {x v : Int32} {c : Nat} (hc : c ≤ 90000) (h : CNT x v c) (z : v = 0) : x = Int32.ofNat c := by
  obtain ⟨h0, h1, h2⟩ := h
  have k : (0 : Int32).toInt = 0 := rfl
  rw [z, k] at h2
  exact Int32.toInt_inj.mp (by rw [zo_ti (by omega)]; omega)
theorem CNT.ne {x v : Int32} {c i : Nat} (h : CNT x v c) (hi : i < c) (hc : c ≤ 90000) : ¬ x = Int32.ofNat i := fun e => by
  obtain ⟨h0, h1, h2⟩ := h
  have v0 := Int32.le_iff_toInt_le.mp h1
  have k : (0 : Int32).toInt = 0 := rfl
  rw [e, zo_ti (by omega)] at h2
  omega
def pPos (g : Nat → Int32) (p : Nat) : Prop := p < 9216 ∧ ¬ g p ≤ 0
theorem m_pairOf {N : Nat} {μ : zS} {x : Int32} : zp (zf_M_pairOf N μ x) (fun r => GETL (lst (pPos (μ 114)) 0 9216) x r) := by
  have go : ∀ (n p : Nat) (v : Int32), p ≤ 9216 → (x < 0 ∨ CNT x v (lst (pPos (μ 114)) 0 p).length) → zp (zb_M_pairOf_4 N n μ x v (Int32.ofNat p)) (fun r => GETL (lst (pPos (μ 114)) 0 9216) x r) := by
    intro n
    induction n with
    | zero => intro _ _ _ _; exact zp_none
    | succ n ih =>
      intro p v hp h
      rw [zb_M_pairOf_4]
      unfold zb_M_pairOf_33
      have ln := lst_len (p := pPos (μ 114)) p 0
      have neg : x < 0 → ∀ i, i < (lst (pPos (μ 114)) 0 9216).length → ¬ x = Int32.ofNat i := fun q i hi e => by
        have l2 := lst_len (p := pPos (μ 114)) 9216 0
        rw [e] at q
        have := (zo_lt (k := i) (j := 0) (by omega) (by omega)).mp q
        omega
      refine zp_ite (fun q => zp_some (Or.inr ⟨?_, rfl⟩)) fun q => zp_ite (fun xn => zp_some (Or.inr ⟨neg xn, rfl⟩)) fun xn => ?_
      · have pe : p = 9216 := by
          have := (zo_le (k := 9216) (j := p) (by omega) (by omega)).mp q
          omega
        subst pe
        rcases h with h | h
        · exact neg h
        · exact fun i hi => h.ne hi (by omega)
      · have h := h.resolve_left xn
        have lt : p < 9216 := by
          by_cases c : p < 9216
          · exact c
          · exact absurd ((zo_le (k := 9216) (j := p) (by omega) (by omega)).mpr (by omega)) q
        rw [zo_n (m := p) (by omega), zo_1 (m := p) (by omega)]
        refine zp_chk fun _ => zp_ite (fun le => ih (p + 1) v (by omega) (Or.inr ?_)) fun gt => ?_
        · rw [lst_no fun k => k.2 le]; exact h
        · have k : pPos (μ 114) p := ⟨lt, gt⟩
          refine zp_ite (fun nz => ih (p + 1) _ (by omega) (Or.inr ?_)) fun z => zp_some (Or.inl ⟨_, p, lst_get k lt, h.hit (by omega) (Classical.not_not.mp z), rfl⟩)
          rw [lst_y k, List.length_append]
          exact h.dec nz
  unfold zf_M_pairOf
  by_cases c : x < 0
  · exact go N 0 x (by omega) (Or.inl c)
  · refine go N 0 x (by omega) (Or.inr ⟨Int32.not_lt.mp c, Int32.not_lt.mp c, ?_⟩)
    rw [lst]
    show x.toInt = x.toInt - ((0 : Nat) : Int)
    omega
theorem LEA.both {g h : Nat → Int32} {R : Nat → Nat → Prop} {n : Nat} (n4 : n ≤ 4000) (a : LEA g (-1) (fun s => Int32.ofNat s) R n) (b : LEA h 0 (fun s => Int32.ofNat (s + 1)) R n) {p : Nat} (hp : p < 9216) : (g p = -1 ∧ h p = 0) ∨ ∃ s, s < n ∧ g p = Int32.ofNat s ∧ h p = Int32.ofNat (s + 1) ∧ R s p := by
  rcases a p hp with ⟨e, no⟩ | ⟨s, hs, e, y, no⟩
  · rcases b p hp with ⟨e', _⟩ | ⟨s, hs, _, y, _⟩
    · exact Or.inl ⟨e, e'⟩
    · exact absurd y (no s hs)
  · rcases b p hp with ⟨_, no'⟩ | ⟨s', hs', e', y', no'⟩
    · exact absurd y (no' s hs)
    · have ss : s = s' := by
        by_cases c : s < s'
        · exact absurd y (no' s c)
        · by_cases d : s' < s
          · exact absurd y' (no s' d)
          · omega
      subst ss
      exact Or.inr ⟨s, hs, e, e', y⟩
theorem rac_same {g h : Nat → Int32} {R : Nat → Nat → Prop} {n : Nat} (n4 : n ≤ 4000) (a : LEA g (-1) (fun s => Int32.ofNat s) R n) (b : LEA h 0 (fun s => Int32.ofNat (s + 1)) R n) : lst (pPos h) 0 9216 = lst (fun p => p < 9216 ∧ pRac g p) 0 9216 := by
  refine lst_congr 9216 0 fun p _ hp => ?_
  have hp : p < 9216 := by omega
  unfold pPos pRac
  rcases LEA.both n4 a b hp with ⟨e, e'⟩ | ⟨s, hs, e, e', _⟩
  · rw [e, e']
    exact ⟨fun k => absurd (by decide) k.2, fun k => absurd rfl k.2⟩
  · rw [e, e']
    exact ⟨fun k => ⟨k.1, zo_ne (by omega)⟩, fun k => ⟨k.1, fun q => by have := (zo_le (k := s + 1) (j := 0) (by omega) (by omega)).mp q; omega⟩⟩
theorem z_q96 {v w : Nat} (hv : v < 96) (hw : w < 96) : Int32.ofNat (96 * v + w) / 96 = Int32.ofNat v := by
  apply Int32.toInt_inj.mp
  have k : (96 : Int32).toInt = 96 := rfl
  rw [Int32.toInt_div_of_ne_right _ _ (by decide), zo_ti (by omega), zo_ti (by omega), k, Int.tdiv_eq_ediv_of_nonneg (by omega)]
  omega
theorem p_part {σ μ : zS} {v w : Nat} {x : Int32} (hv : v < 96) (hw : w < 96) (e : μ 93 v = σ 8 v) : zp (zf_Program_partOfPair σ (Int32.ofNat (96 * v + w)) x) (fun r => zp (zf_M_ofPair μ (Int32.ofNat (96 * v + w)) x) (fun s => r = s)) := by
  unfold zf_Program_partOfPair zf_M_ofPair
  rw [z_q96 hv hw, zo_n (m := v) (by omega), e]
  refine zp_ite (fun q => ?_) fun _ => zp_ite (fun _ => ?_) fun q => absurd ((zo_lt (k := v) (j := 96) (by omega) (by omega)).mpr hv) q
  · have := (zo_lt (k := 96 * v + w) (j := 0) (by omega) (by omega)).mp q
    omega
  · refine zp_ite (fun a => zp_some (zp_ite (fun _ => zp_some rfl) fun q => absurd a q)) fun a => zp_ite (fun b => zp_some (zp_ite (fun q => absurd q a) fun _ => zp_ite (fun _ => zp_some rfl) fun q => absurd b q)) fun b => zp_ite (fun c => zp_some (zp_ite (fun q => absurd q a) fun _ => zp_ite (fun q => absurd q b) fun _ => zp_ite (fun _ => zp_some rfl) fun q => absurd c q)) fun c => zp_ite (fun d => zp_some (zp_ite (fun q => absurd q a) fun _ => zp_ite (fun q => absurd q b) fun _ => zp_ite (fun q => absurd q c) fun _ => zp_ite (fun _ => zp_some rfl) fun q => absurd d q)) fun d => zp_ite (fun f => zp_chk fun _ => zp_some (zp_ite (fun q => absurd q a) fun _ => zp_ite (fun q => absurd q b) fun _ => zp_ite (fun q => absurd q c) fun _ => zp_ite (fun q => absurd q d) fun _ => zp_ite (fun _ => zp_chk fun _ => zp_some rfl) fun q => absurd f q)) fun f => zp_some (zp_ite (fun q => absurd q a) fun _ => zp_ite (fun q => absurd q b) fun _ => zp_ite (fun q => absurd q c) fun _ => zp_ite (fun q => absurd q d) fun _ => zp_ite (fun q => absurd q f) fun _ => zp_some rfl)
theorem p_race13 {N : Nat} {σ : zS} {τ : zT} {x1 x2 : Int32} (ev : EQY σ τ) : zp (zf_X_race σ x1 x2) (fun r => zp (zf_M_race N σ x1 x2) (fun s => r = s.1)) := by
  rcases ev.2.2 with ⟨a, b⟩ | ⟨l13, a, b, ρ, m, len, nc, n, P, XQ, h1, pc, n4, h6, h54, wy, ⟨fi, hL, pj⟩, hst⟩
  · unfold zf_X_race zf_M_race
    exact zp_ite (fun q => absurd a q) fun _ => zp_some (zp_ite (fun q => absurd b q) fun _ => zp_some rfl)
  have m4 := pc.1.1
  have k15 : ¬ σ 2 15 = 0 := by rw [a]; decide
  have k53 : ¬ σ 82 53 = 0 := by rw [b]; decide
  obtain ⟨sl, fg⟩ := (ev.2.1 l13).1
  rcases ev.1.1.1.2.2.2 with ⟨a', _⟩ | ⟨_, _, c, len', _, cs, _, _, _, _, _, c6, _⟩
  · rw [l13] at a'
    exact absurd a' (by decide)
  have c06 : c 0 ≤ 6 := c6 0 (by decide)
  have fd : FLD σ := ⟨sl, fg, by rw [(cs 0 (by decide)).1]; exact (zo_le (k := c 0) (j := 6) (by omega) (by omega)).mpr c06⟩
  obtain ⟨⟨_, _, _, gR⟩, rl, _⟩ := fi
  have same := rac_same n4 gR hL
  have l3 : (lst (fun p => p < 9216 ∧ pRac (σ 57) p) 0 9216).length ≤ 3456 := by
    have a : (lst (fun p => p < 9216 ∧ pRac (σ 57) p) (96 * 0) (96 * 96)).length ≤ bnr 0 96 := rac_len (fun s k => by
      rcases gR s k.1 with ⟨e, _⟩ | ⟨_, _, _, ⟨a, b, za, zb, h1, h2, _, _, _, e⟩, _⟩
      · exact absurd e k.2
      · omega) 96 0
    rw [bnr_all] at a
    exact a
  unfold zf_X_race
  refine zp_ite (fun _ => zp_bind (zp_mono (g_53 rl l3) fun r2 h2 => ?_)) fun q => absurd k15 q
  intro r er
  obtain ⟨r3, e3, er⟩ := Option.bind_eq_some_iff.mp er
  injection er with er
  subst er
  unfold zf_M_race
  refine zp_ite (fun _ => zp_bind (zp_mono m_pairOf fun y hy => ?_)) fun q => absurd k53 q
  rw [zu_other (by decide), same] at hy
  have ry : r2 = y := h2.one (by omega) hy
  subst ry
  rcases h2 with ⟨i, p, e1, _, e⟩ | ⟨_, e⟩
  · have mem := (lst_mem (p := fun p => p < 9216 ∧ pRac (σ 57) p) 9216 0 p).mp (List.mem_of_getElem? e1)
    obtain ⟨_, hp, k⟩ := mem
    rcases gR p k.1 with ⟨z, _⟩ | ⟨s, hs, _, ⟨A, B, za, zb, ⟨hAB, hB⟩, ⟨hza, hzb⟩, ⟨r1, _⟩, ⟨s1, _⟩, cl, ep⟩, _⟩
    · exact absurd z k.2
    have ne : ¬ r2 = -1 := by rw [e]; exact zo_ne (by omega)
    refine zp_ite (fun _ => ?_) fun q => absurd ne q
    have e93 : (zx_up σ 82 0 0) 93 (24 * A + za) = σ 8 (24 * A + za) := by
      rw [zu_other (by decide)]
      have cl' : CLS σ (24 * A + za) (24 * B + zb) := cl.of fun q hq => h1 q (by omega) (by omega)
      obtain ⟨kk, _⟩ := cl'
      obtain ⟨st, _⟩ := hst s hs
      obtain ⟨z, zl, es⟩ := st.running (by omega) r1
      have l24 := (pc.2.1 A (by omega)).1
      have zEq : za = z := zo_inj (by omega) (by omega) (s1.symm.trans es)
      have sv : SLV m len (24 * A + za) := ⟨by omega, by rw [show (24 * A + za) / 24 = A by omega]; omega⟩
      exact (slv_fld pj fd sv kk).2.2.2.2
    rw [e, ep] at e3 ⊢
    have k3 := p_part (x := x2) (σ := σ) (μ := zx_up σ 82 0 0) (v := 24 * A + za) (w := 24 * B + zb) (by omega) (by omega) e93 r3 e3
    exact zp_bind (zp_mono k3 fun z ez => zp_some ez)
  · refine zp_ite (fun q => absurd e q) fun _ => zp_some ?_
    unfold zf_Program_partOfPair at e3
    rw [e, if_pos (by decide)] at e3
    injection e3 with e3
    exact e3.symm
