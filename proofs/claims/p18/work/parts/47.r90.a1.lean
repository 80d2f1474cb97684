-- both answer alike
set_option maxRecDepth 2000
def zr {α β : Type} (o : Option α) (o' : Option β) (R : α → β → Prop) : Prop := ∀ r, o = some r → ∃ r', o' = some r' ∧ R r r'
theorem zr_some {α β : Type} {a : α} {b : β} {R : α → β → Prop} (h : R a b) : zr (some a) (some b) R := fun r e => ⟨b, rfl, by injection e with e; rw [← e]; exact h⟩
theorem zr_none {α β : Type} {o' : Option β} {R : α → β → Prop} : zr (none : Option α) o' R := fun r e => by cases e
theorem zr_mono {α β : Type} {o : Option α} {o' : Option β} {R S : α → β → Prop} (h : zr o o' S) (k : ∀ a b, S a b → R a b) : zr o o' R := fun r e => by
  obtain ⟨r', e', hr⟩ := h r e
  exact ⟨r', e', k r r' hr⟩
theorem zr_bind {α β γ δ : Type} {o : Option α} {o' : Option β} {f : α → Option γ} {g : β → Option δ} {S : α → β → Prop} {R : γ → δ → Prop} (h : zr o o' S) (k : ∀ a b, S a b → zr (f a) (g b) R) : zr (o.bind f) (o'.bind g) R := fun r e => by
  cases ho : o with
  | none => rw [ho] at e; cases e
  | some a =>
    obtain ⟨b, hb, s⟩ := h a ho
    rw [ho] at e
    obtain ⟨r', e', hr⟩ := k a b s r e
    exact ⟨r', by rw [hb]; exact e', hr⟩
theorem zr_same {α γ δ : Type} {o : Option α} {f : α → Option γ} {g : α → Option δ} {R : γ → δ → Prop} (k : ∀ a, o = some a → zr (f a) (g a) R) : zr (o.bind f) (o.bind g) R := fun r e => by
  cases ho : o with
  | none => rw [ho] at e; cases e
  | some a =>
    rw [ho] at e
    exact k a ho r e
theorem zr_ite {α β : Type} {c : Prop} [Decidable c] {a b : Option α} {a' b' : Option β} {R : α → β → Prop} (h : c → zr a a' R) (g : ¬ c → zr b b' R) : zr (if c then a else b) (if c then a' else b') R := by
  by_cases d : c
  · rw [if_pos d, if_pos d]; exact h d
  · rw [if_neg d, if_neg d]; exact g d
theorem zr_chk {α β : Type} {c : Prop} [Decidable c] {a : Option α} {a' : Option β} {R : α → β → Prop} (h : c → zr a a' R) : zr (if c then a else none) (if c then a' else none) R := zr_ite h fun _ => zr_none
def MK (a b : Int32) : Prop := ∀ i, i < 32 → i ≠ 17 → gb a i = gb b i
theorem MK.rf {a : Int32} : MK a a := fun _ _ _ => rfl
theorem MK.get {a b c : Int32} {n k : Nat} (h : MK a b) (hn : n < 24) (hc : ∀ i, i < 32 → k ≤ i → gb c i = false) (nk : n + k ≤ 17) : (zJ_ushr a (Int32.ofNat n)) &&& c = (zJ_ushr b (Int32.ofNat n)) &&& c := gb_ext fun i hi => by
  rw [gb_and, gb_and, gb_ushr hn, gb_ushr hn]
  by_cases d : i < k
  · rw [h (n + i) (by omega) (by omega)]
  · rw [hc i hi (by omega), Bool.and_false, Bool.and_false]
theorem gb7h {i : Nat} (hi : i < 32) (h : 3 ≤ i) : gb 7 i = false := by rw [gb7 hi, decide_eq_false (by omega)]
theorem gb31h {i : Nat} (hi : i < 32) (h : 5 ≤ i) : gb 31 i = false := by rw [gb31 hi, decide_eq_false (by omega)]
def how17 (w : Int32) : Int32 := (zJ_ushr w 14) &&& 7
theorem MK.how {a b : Int32} (h : MK a b) : how17 a = how17 b := by
  unfold how17
  rw [show (14 : Int32) = Int32.ofNat 14 from rfl]
  exact h.get (k := 3) (by omega) (fun i hi k => gb7h hi k) (by omega)
theorem MK.stp {a b : Int32} (h : MK a b) : (zJ_ushr a 9) &&& 31 = (zJ_ushr b 9) &&& 31 := by
  rw [show (9 : Int32) = Int32.ofNat 9 from rfl]
  exact h.get (k := 5) (by omega) (fun i hi k => gb31h hi k) (by omega)
theorem MK.set {a b x y : Int32} (h : MK a b) : MK ((a &&& x) ||| y) ((b &&& x) ||| y) := fun i hi n => by rw [gb_or, gb_or, gb_and, gb_and, h i hi n]
theorem MK.or {a b y : Int32} (h : MK a b) : MK (a ||| y) (b ||| y) := fun i hi n => by rw [gb_or, gb_or, h i hi n]
theorem MK.clr {a : Int32} : MK a (a &&& (-131073)) := fun i hi n => by
  have k : gb (-131073) i = decide (i ≠ 17) := gb_cS ⟨i, hi⟩
  rw [gb_and, k, decide_eq_true n, Bool.and_true]
theorem clr17 {a : Int32} : gb (a &&& (-131073)) 17 = false := by
  have k : gb (-131073) 17 = decide ((17 : Nat) ≠ 17) := gb_cS ⟨17, by omega⟩
  rw [gb_and, k]
  exact Bool.and_false _
def wm (w : Nat → Int32) : Nat → Int32 := fun i => if i = 0 then w 0 else w i &&& (-131073)
theorem wm_0 {w : Nat → Int32} : wm w 0 = w 0 := if_pos rfl
theorem wm_s {w : Nat → Int32} {t : Nat} : wm w (t + 1) = w (t + 1) &&& (-131073) := if_neg (by omega)
theorem wm_mk {w : Nat → Int32} {t : Nat} : MK (w (t + 1)) (wm w (t + 1)) := by rw [wm_s]; exact MK.clr
theorem SAME5.wm {v w : Nat → Int32} (h : SAME5 v w) : SAME5 (wm v) (wm w) := fun i hi => by
  cases i with
  | zero => rw [wm_0, wm_0]; exact h 0 hi
  | succ t => rw [wm_s, wm_s, h (t + 1) hi]
def RLB (σ σ' : zS) : Prop := (∀ q, q ≠ 39 → q ≠ 40 → σ' q = σ q) ∧ (σ' 39 0 = σ 39 0 ∧ σ' 40 0 = σ 40 0) ∧ ∀ u, u < 4 → MK (σ 39 (u + 1)) (σ' 39 (u + 1)) ∧ MK (σ 40 (u + 1)) (σ' 40 (u + 1))
theorem RLB.up {σ σ' : zS} {t : Nat} {v v' : Int32} (h : RLB σ σ') (k : MK v v') : RLB (zx_up σ 40 (t + 1) v) (zx_up σ' 40 (t + 1) v') := by
  refine ⟨fun q a b => ?_, ⟨?_, ?_⟩, fun u hu => ⟨?_, ?_⟩⟩
  · rw [zu_other b, zu_other b]; exact h.1 q a b
  · rw [zu_other (by decide), zu_other (by decide)]; exact h.2.1.1
  · rw [zx_up_same, zu_ne (by omega), zx_up_same, zu_ne (by omega)]; exact h.2.1.2
  · rw [zu_other (by decide), zu_other (by decide)]; exact (h.2.2 u hu).1
  · rw [zx_up_same, zx_up_same]
    by_cases c : u = t
    · rw [c, zu_eq, zu_eq]; exact k
    · rw [zu_ne (by omega), zu_ne (by omega)]; exact (h.2.2 u hu).2
theorem RLB.up0 {σ σ' : zS} {v : Int32} (h : RLB σ σ') : RLB (zx_up σ 40 0 v) (zx_up σ' 40 0 v) := by
  refine ⟨fun q a b => ?_, ⟨?_, ?_⟩, fun u hu => ⟨?_, ?_⟩⟩
  · rw [zu_other b, zu_other b]; exact h.1 q a b
  · rw [zu_other (by decide), zu_other (by decide)]; exact h.2.1.1
  · rw [zx_up_same, zu_eq, zx_up_same, zu_eq]
  · rw [zu_other (by decide), zu_other (by decide)]; exact (h.2.2 u hu).1
  · rw [zx_up_same, zu_ne (by omega), zx_up_same, zu_ne (by omega)]; exact (h.2.2 u hu).2
def W17 (a b : Int32) : Prop := gb b 17 = gb a 17 ∧ how17 b = how17 a
def P17 (a b : Int32) : Prop := gb b 17 = (if how17 b = 4 ∨ how17 b = 5 then false else gb a 17)
theorem W17.rf {a : Int32} : W17 a a := ⟨rfl, rfl⟩
theorem W17.p {a b c : Int32} (h : W17 a b) (k : P17 b c) : P17 a c := by
  unfold P17 at *
  rw [k, h.1]
theorem gb_K17 : gb 131583 17 = true := by
  have k : gb 131583 17 = decide ((17 : Nat) < 9 ∨ (17 : Nat) = 17) := gb_cK ⟨17, by omega⟩
  rw [k]; rfl
theorem gb_517 : gb 511 17 = false := by
  have k : gb 511 17 = decide ((17 : Nat) < 9) := gb_c511 ⟨17, by omega⟩
  rw [k]; rfl
theorem pl_bits {a s h k : Int32} (hs : 0 ≤ s ∧ s ≤ 31) (hh : 0 ≤ h ∧ h ≤ 7) (hk : k = 511 ∨ k = 131583) : gb (((a &&& k) ||| (zJ_shl s 9)) ||| (zJ_shl h 14)) 17 = (gb a 17 && gb k 17) ∧ how17 (((a &&& k) ||| (zJ_shl s 9)) ||| (zJ_shl h 14)) = h := by
  have key : ∀ i, i < 32 → gb (((a &&& k) ||| (zJ_shl s 9)) ||| (zJ_shl h 14)) i = (((gb a i && gb k i) || (decide (9 ≤ i) && gb s (i - 9))) || (decide (14 ≤ i) && gb h (i - 14))) := fun i hi => by
    rw [gb_or, gb_or, gb_and, show (9 : Int32) = Int32.ofNat 9 from rfl, show (14 : Int32) = Int32.ofNat 14 from rfl, gb_shl (by omega) hi, gb_shl (by omega) hi]
  have kb : ∀ i, 9 ≤ i → i < 17 → gb k i = false := fun i h1 h2 => by
    rcases hk with e | e
    · have q : gb 511 i = decide (i < 9) := gb_c511 ⟨i, by omega⟩
      rw [e, q, decide_eq_false (by omega)]
    · have q : gb 131583 i = decide (i < 9 ∨ i = 17) := gb_cK ⟨i, by omega⟩
      rw [e, q, decide_eq_false (by omega)]
  constructor
  · rw [key 17 (by omega), gb_lo31 hs (show 5 ≤ 17 - 9 by omega), gb_lo7 hh (show 3 ≤ 17 - 14 by omega)]
    simp
  · unfold how17
    refine gb_ext fun i hi => ?_
    rw [gb_and, show (14 : Int32) = Int32.ofNat 14 from rfl, gb_ushr (by omega), gb7 hi]
    by_cases c : i < 3
    · rw [show (Int32.ofNat 14) = (14 : Int32) from rfl, key (14 + i) (by omega), kb (14 + i) (by omega) (by omega), decide_eq_true c, decide_eq_true (show 14 ≤ 14 + i by omega), gb_lo31 hs (show 5 ≤ 14 + i - 9 by omega), show 14 + i - 14 = i by omega]
      simp
    · rw [decide_eq_false c, Bool.and_false, gb_lo7 hh (by omega)]
def T17 (t : Nat) (σ r : zS) : Prop := (∀ q, q ≠ 40 → r q = σ q) ∧ (∀ u, u < 4 → u ≠ t → r 40 (u + 1) = σ 40 (u + 1)) ∧ P17 (σ 40 (t + 1)) (r 40 (t + 1))
theorem r_place {σ σ' : zS} {t : Nat} {s h : Int32} (t4 : t < 4) (s31 : 0 ≤ s ∧ s ≤ 31) (h7 : 0 ≤ h ∧ h ≤ 7) (R : RLB σ σ') : zr (zf_Machine_place σ (Int32.ofNat t) s h) (zf_Machine_place σ' (Int32.ofNat t) s h) (fun r r' => RLB r r' ∧ T17 t σ r ∧ how17 (r 40 (t + 1)) = h) := by
  have A : ∀ k : Int32, ((h = 4 ∨ h = 5) ∧ k = 511) ∨ (¬ (h = 4 ∨ h = 5) ∧ k = 131583) → zr (zb_Machine_place_30 σ (Int32.ofNat t) s h k) (zb_Machine_place_30 σ' (Int32.ofNat t) s h k) (fun r r' => RLB r r' ∧ T17 t σ r ∧ how17 (r 40 (t + 1)) = h) := fun k hk => by
    unfold zb_Machine_place_30
    rw [zo_1 (m := t) (by omega), zo_n (m := t + 1) (by omega)]
    have hk' : k = 511 ∨ k = 131583 := hk.elim (fun e => Or.inl e.2) fun e => Or.inr e.2
    obtain ⟨b1, b2⟩ := pl_bits (a := σ 40 (t + 1)) (k := k) s31 h7 hk'
    have W : (zx_up σ 40 (t + 1) (((σ 40 (t + 1) &&& k) ||| (zJ_shl s 9)) ||| (zJ_shl h 14))) 40 (t + 1) = ((σ 40 (t + 1) &&& k) ||| (zJ_shl s 9)) ||| (zJ_shl h 14) := by rw [zx_up_same, zu_eq]
    refine zr_ite (fun q => ?_) fun _ => zr_ite (fun q => ?_) fun _ => zr_chk fun _ => zr_chk fun _ => zr_some ⟨R.up ((R.2.2 t t4).2.set.or), ⟨fun q hq => zu_other hq, fun u _ ne => by rw [zx_up_same, zu_ne (by omega)], ?_⟩, ?_⟩
    · have := (zo_lt (k := t) (j := 0) (by omega) (by omega)).mp q
      omega
    · have := (zo_le (k := 4) (j := t) (by omega) (by omega)).mp q
      omega
    · unfold P17
      rw [W, b1, b2]
      rcases hk with ⟨e, e'⟩ | ⟨e, e'⟩
      · rw [if_pos e, e', gb_517, Bool.and_false]
      · rw [if_neg e, e', gb_K17, Bool.and_true]
    · rw [W, b2]
  unfold zf_Machine_place zb_Machine_place_10 zb_Machine_place_15
  refine zr_ite (fun e => zr_ite (fun q => absurd q (by decide)) fun _ => A 511 (Or.inl ⟨Or.inl e, rfl⟩)) fun n4 => zr_ite (fun n5 => zr_ite (fun _ => A 131583 (Or.inr ⟨fun q => q.elim n4 n5, rfl⟩)) fun q => absurd rfl q) fun e => zr_ite (fun q => absurd q (by decide)) fun _ => A 511 (Or.inl ⟨Or.inr (Classical.not_not.mp e), rfl⟩)
theorem r_len {σ σ' : zS} {x : Int32} (R : RLB σ σ') : zf_Program_lengthOf σ' x = zf_Program_lengthOf σ x := by
  unfold zf_Program_lengthOf
  rw [R.1 5 (by decide) (by decide)]
theorem r_how {σ σ' : zS} {x : Int32} (R : RLB σ σ') : zf_Machine_howOf σ' x = zf_Machine_howOf σ x := by
  unfold zf_Machine_howOf
  rw [R.1 36 (by decide) (by decide)]
theorem r_slot {σ σ' : zS} {x : Int32} (R : RLB σ σ') : zf_Machine_slotOf σ' x = zf_Machine_slotOf σ x := by
  unfold zf_Machine_slotOf
  rw [R.1 37 (by decide) (by decide)]
theorem r_own {σ σ' : zS} {x : Int32} (R : RLB σ σ') : zf_Machine_ownerOf σ' x = zf_Machine_ownerOf σ x := by
  unfold zf_Machine_ownerOf
  rw [R.1 38 (by decide) (by decide)]
theorem r_goTo {σ σ' : zS} {t z S : Nat} (t4 : t < 4) (h5 : σ 5 t = Int32.ofNat S) (S24 : S ≤ 24) (hz : z ≤ S) (R : RLB σ σ') : zr (zf_Machine_goTo σ (Int32.ofNat t) (Int32.ofNat z)) (zf_Machine_goTo σ' (Int32.ofNat t) (Int32.ofNat z)) (fun r r' => RLB r r' ∧ T17 t σ r) := by
  have b31 : ∀ y : Nat, y ≤ 24 → (0 : Int32) ≤ Int32.ofNat y ∧ Int32.ofNat y ≤ 31 := fun y hy => ⟨(zo_le (k := 0) (j := y) (by omega) (by omega)).mpr (Nat.zero_le _), (zo_le (k := y) (j := 31) (by omega) (by omega)).mpr (by omega)⟩
  unfold zf_Machine_goTo zb_Machine_goTo_16 zb_Machine_goTo_21 zb_Machine_goTo_40 zb_Machine_goTo_49
  rw [r_len R]
  refine zr_ite (fun q => ?_) fun _ => zr_same fun r6 e6 => ?_
  · have := (zo_lt (k := z) (j := 0) (by omega) (by omega)).mp q
    omega
  · have e6 := p_X_lengthOf t4 r6 e6
    rw [h5] at e6
    subst e6
    refine zr_ite (fun q => zr_ite (fun _ => zr_ite (fun _ => zr_bind (r_place t4 (b31 z (by omega)) (by decide) R) fun a b h => zr_some ⟨h.1, h.2.1⟩) fun q => absurd rfl q) fun q => absurd rfl q) fun q => zr_ite (fun q => absurd q (by decide)) fun _ => zr_same fun r5 e5 => ?_
    have e5 := p_X_lengthOf t4 r5 e5
    rw [h5] at e5
    subst e5
    exact zr_ite (fun q => absurd q (by decide)) fun _ => zr_bind (r_place t4 (b31 S (by omega)) (by decide) R) fun a b h => zr_some ⟨h.1, h.2.1⟩
theorem r_step {σ σ' : zS} {t : Nat} (t4 : t < 4) (R : RLB σ σ') : zr (zf_Machine_stepOf σ (Int32.ofNat t)) (zf_Machine_stepOf σ' (Int32.ofNat t)) (fun a b => a = b ∧ 0 ≤ a ∧ a ≤ 31) := by
  unfold zf_Machine_stepOf zf_Machine_wordOf
  rw [zo_1 (m := t) (by omega), zo_n (m := t + 1) (by omega)]
  exact zr_bind (S := fun a b => MK a b) (zr_ite (fun _ => zr_some MK.rf) fun _ => zr_ite (fun _ => zr_some MK.rf) fun _ => zr_chk fun _ => zr_some (R.2.2 t t4).1) fun a b h => zr_some ⟨h.stp, z_and _ 31 (by decide)⟩
theorem r_tail {N : Nat} {σ σ' : zS} {t q z S : Nat} {v : Int32} (t4 : t < 4) (q96 : q < 96) (h5 : σ 5 t = Int32.ofNat S) (S24 : S ≤ 24) (hz : z ≤ S) (R : RLB σ σ') : zr (zb_Machine_move_261 N σ (Int32.ofNat t) (Int32.ofNat q) v (Int32.ofNat z)) (zb_Machine_move_261 N σ' (Int32.ofNat t) (Int32.ofNat q) v (Int32.ofNat z)) (fun r r' => RLB r r' ∧ T17 t σ r) := by
  have gt : zr (zb_Machine_move_317 N σ (Int32.ofNat t) (Int32.ofNat z)) (zb_Machine_move_317 N σ' (Int32.ofNat t) (Int32.ofNat z)) (fun r r' => RLB r r' ∧ T17 t σ r) := by
    unfold zb_Machine_move_317
    exact zr_bind (r_goTo t4 h5 S24 hz R) fun a b h => zr_some h
  have pl : ∀ h : Int32, 0 ≤ h ∧ h ≤ 7 → zr ((zf_Machine_stepOf σ (Int32.ofNat t)).bind fun r31 => (zf_Machine_place σ (Int32.ofNat t) r31 h).bind fun r32 => some r32) ((zf_Machine_stepOf σ' (Int32.ofNat t)).bind fun r31 => (zf_Machine_place σ' (Int32.ofNat t) r31 h).bind fun r32 => some r32) (fun r r' => RLB r r' ∧ T17 t σ r) := fun h h7 => zr_bind (r_step t4 R) fun a b e => by
    rw [← e.1]
    exact zr_bind (r_place t4 e.2 h7 R) fun r r' k => zr_some ⟨k.1, k.2.1⟩
  unfold zb_Machine_move_261
  rw [r_how R, R.1 7 (by decide) (by decide)]
  exact zr_ite (fun _ => zr_same fun r26 _ => zr_ite (fun _ => gt) fun _ => zr_chk fun _ => zr_ite (fun _ => gt) fun _ => pl 2 (by decide)) fun _ => pl 5 (by decide)
theorem r_value {σ σ' : zS} {t : Nat} {v : Int32} (t4 : t < 4) (r : VR v) (R : RLB σ σ') : zr (zf_Machine_valueOf σ (Int32.ofNat t) v) (zf_Machine_valueOf σ' (Int32.ofNat t) v) (fun a b => a = b) := by
  unfold zf_Machine_valueOf zf_Machine_localOf
  refine zr_ite (fun c => zr_bind (S := fun a b => a = b) ?_ fun a b h => zr_some h) fun _ => zr_some rfl
  obtain ⟨j, hj, e, _⟩ := v_ex r c
  have e8 : v - 8 = Int32.ofNat j := by
    rw [e]
    have b : ∀ j : Fin 3, Int32.ofNat (8 + j.val) - 8 = Int32.ofNat j.val := by decide
    exact b ⟨j, hj⟩
  have e3 : 3 * Int32.ofNat j = Int32.ofNat (3 * j) := by
    show Int32.ofNat 3 * Int32.ofNat j = _
    rw [← Int32.ofNat_mul]
  rw [e8, e3, zo_1 (m := t) (by omega), zo_n (m := t + 1) (by omega)]
  exact zr_ite (fun _ => zr_some rfl) fun _ => zr_ite (fun _ => zr_some rfl) fun _ => zr_chk fun _ => zr_some ((R.2.2 t t4).1.get (k := 3) (by omega) (fun i hi k => gb7h hi k) (by omega))
theorem r_valueA {σ σ' : zS} {x v : Int32} : zr (zf_Machine_valueOf σ x v) (zf_Machine_valueOf σ' x v) (fun _ _ => True) := by
  unfold zf_Machine_valueOf zf_Machine_localOf
  exact zr_ite (fun _ => zr_bind (S := fun _ _ => True) (zr_ite (fun _ => zr_some trivial) fun _ => zr_ite (fun _ => zr_some trivial) fun _ => zr_chk fun _ => zr_some trivial) fun a b _ => zr_some trivial) fun _ => zr_some trivial
def K17 (t : Nat) (σ r : zS) : Prop := (∀ q, q ≠ 40 → r q = σ q) ∧ ∀ u, u < 4 → (u ≠ t → r 40 (u + 1) = σ 40 (u + 1)) ∧ W17 (σ 40 (u + 1)) (r 40 (u + 1))
theorem set_w17 {a y : Int32} {j : Nat} (hj : j < 3) : W17 a ((a &&& ((zJ_shl 7 (Int32.ofNat (3 * j))) ^^^ (-1))) ||| (zJ_shl (y &&& 7) (Int32.ofNat (3 * j)))) := by
  constructor
  · rw [gb_set (by omega) (by omega), if_neg (by omega)]
  · unfold how17
    refine gb_ext fun i hi => ?_
    rw [gb_and, gb_and, show (14 : Int32) = Int32.ofNat 14 from rfl, gb_ushr (by omega), gb_ushr (by omega)]
    by_cases c : i < 3
    · rw [gb_set (by omega) (by omega), if_neg (by omega)]
    · rw [gb7h hi (by omega), Bool.and_false, Bool.and_false]
theorem r_w150 {σ σ' : zS} {t j : Nat} {y : Int32} (t4 : t < 4) (hj : j < 3) (R : RLB σ σ') : zr (zb_Machine_work_150 σ y (Int32.ofNat (t + 1)) (Int32.ofNat j) 3) (zb_Machine_work_150 σ' y (Int32.ofNat (t + 1)) (Int32.ofNat j) 3) (fun r r' => RLB r r' ∧ K17 t σ r) := by
  have e3 : 3 * Int32.ofNat j = Int32.ofNat (3 * j) := by
    show Int32.ofNat 3 * Int32.ofNat j = _
    rw [← Int32.ofNat_mul]
  unfold zb_Machine_work_150
  rw [e3, zo_n (m := t + 1) (by omega)]
  refine zr_ite (fun q => ?_) fun _ => zr_ite (fun q => ?_) fun _ => zr_chk fun _ => zr_chk fun _ => zr_some ⟨R.up (R.2.2 t t4).2.set, fun q hq => zu_other hq, fun u hu => ⟨fun ne => by rw [zx_up_same, zu_ne (by omega)], ?_⟩⟩
  · have := (zo_lt (k := t + 1) (j := 0) (by omega) (by omega)).mp q
    omega
  · have := (zo_le (k := 5) (j := t + 1) (by omega) (by omega)).mp q
    omega
  · rw [zx_up_same]
    by_cases c : u = t
    · rw [c, zu_eq]; exact set_w17 hj
    · rw [zu_ne (by omega)]; exact W17.rf
theorem r_w150f {σ σ' : zS} {t f : Nat} {y : Int32} (hf : f < 6) (R : RLB σ σ') : zr (zb_Machine_work_150 σ y 0 (Int32.ofNat f) 3) (zb_Machine_work_150 σ' y 0 (Int32.ofNat f) 3) (fun r r' => RLB r r' ∧ K17 t σ r) := by
  unfold zb_Machine_work_150
  rw [show (0 : Int32).toNatClampNeg = 0 from rfl, R.2.1.2]
  exact zr_ite (fun q => absurd q (by decide)) fun _ => zr_ite (fun q => absurd q (by decide)) fun _ => zr_chk fun _ => zr_chk fun _ => zr_some ⟨R.up0, fun q hq => zu_other hq, fun u hu => ⟨fun ne => by rw [zx_up_same, zu_ne (by omega)], by rw [zx_up_same, zu_ne (by omega)]; exact W17.rf⟩⟩
theorem r_work {σ σ' : zS} {t q : Nat} (t4 : t < 4) (q96 : q < 96) (R : RLB σ σ') (hk : (σ 7 q = 0 ∧ (∃ f, f < 6 ∧ σ 8 q = Int32.ofNat f) ∧ ∃ j, j < 3 ∧ σ 13 q = Int32.ofNat j) ∨ (σ 7 q = 1 ∧ (∃ f, f < 6 ∧ σ 8 q = Int32.ofNat f) ∧ σ 15 q = -1 ∧ VR (σ 14 q)) ∨ (σ 7 q = 2 ∧ (∃ j, j < 3 ∧ σ 13 q = Int32.ofNat j) ∧ VR (σ 14 q) ∧ (σ 15 q = -1 ∨ ((σ 15 q = 43 ∨ σ 15 q = 45) ∧ VR (σ 16 q))))) : zr (zf_Machine_work σ (Int32.ofNat t) (Int32.ofNat q)) (zf_Machine_work σ' (Int32.ofNat t) (Int32.ofNat q)) (fun r r' => RLB r r' ∧ K17 t σ r) := by
  have g : ∀ p, p ≠ 39 → p ≠ 40 → σ' p = σ p := R.1
  unfold zf_Machine_work zf_Machine_valueOfField
  rw [zo_n (m := q) (by omega), g 7 (by decide) (by decide), g 8 (by decide) (by decide), g 14 (by decide) (by decide), g 15 (by decide) (by decide), g 16 (by decide) (by decide), R.2.1.1]
  have w109 : ∀ (k y : Int32), (k = 1 → ∃ f, f < 6 ∧ σ 8 q = Int32.ofNat f) → (¬ k = 1 → ∃ j, j < 3 ∧ σ 13 q = Int32.ofNat j) → zr (zb_Machine_work_109 σ (Int32.ofNat t) (Int32.ofNat q) k y) (zb_Machine_work_109 σ' (Int32.ofNat t) (Int32.ofNat q) k y) (fun r r' => RLB r r' ∧ K17 t σ r) := fun k y h1 h2 => by
    unfold zb_Machine_work_109 zb_Machine_work_121
    rw [zo_n (m := q) (by omega), g 8 (by decide) (by decide), g 13 (by decide) (by decide)]
    refine zr_ite (fun n => zr_ite (fun _ => zr_chk fun _ => ?_) fun q => absurd n q) fun e => zr_ite (fun q => absurd q e) fun _ => zr_chk fun _ => ?_
    · obtain ⟨j, hj, ej⟩ := h2 n
      rw [ej, zo_1 (m := t) (by omega)]
      exact r_w150 t4 hj R
    · obtain ⟨f, hf, ef⟩ := h1 (Classical.not_not.mp e)
      rw [ef]
      exact r_w150f hf R
  rcases hk with ⟨k, f, j⟩ | ⟨k, f, s, v⟩ | ⟨k, j, v, s⟩
  · rw [k]
    refine zr_chk fun _ => zr_chk fun _ => zr_bind r_valueA fun a b _ => zr_chk fun _ => zr_bind r_valueA fun c d _ => zr_ite (fun q => absurd rfl q) fun _ => zr_chk fun _ => zr_same fun r20 _ => w109 0 r20 (fun q => absurd q (by decide)) fun _ => j
  · rw [k, s]
    refine zr_chk fun _ => zr_chk fun _ => zr_bind (r_value t4 v R) fun a b e => zr_chk fun _ => zr_bind r_valueA fun c d _ => zr_ite (fun _ => zr_chk fun _ => zr_ite (fun _ => zr_chk fun _ => zr_ite (fun _ => ?_) fun q => absurd (by decide) q) fun q => absurd (by decide) q) fun q => absurd (by decide) q
    rw [← e]
    exact w109 1 a (fun _ => f) fun q => absurd rfl q
  · rw [k]
    rcases s with s | ⟨s, v2⟩
    · rw [s]
      refine zr_chk fun _ => zr_chk fun _ => zr_bind (r_value t4 v R) fun a b e => zr_chk fun _ => zr_bind r_valueA fun c d _ => zr_ite (fun _ => zr_chk fun _ => zr_ite (fun _ => zr_chk fun _ => zr_ite (fun _ => ?_) fun q => absurd (by decide) q) fun q => absurd (by decide) q) fun q => absurd (by decide) q
      rw [← e]
      exact w109 2 a (fun q => absurd q (by decide)) fun _ => j
    · refine zr_chk fun _ => zr_chk fun _ => zr_bind (r_value t4 v R) fun a b e => zr_chk fun _ => zr_bind (r_value t4 v2 R) fun c d e' => ?_
      rw [← e, ← e']
      exact zr_ite (fun _ => zr_chk fun _ => zr_ite (fun _ => zr_chk fun _ => zr_ite (fun _ => w109 2 a (fun q => absurd q (by decide)) fun _ => j) fun _ => w109 2 (a - c) (fun q => absurd q (by decide)) fun _ => j) fun _ => w109 2 (a + c) (fun q => absurd q (by decide)) fun _ => j) fun q => absurd (by decide) q
theorem r_holds {σ σ' : zS} {t q : Nat} (t4 : t < 4) (q96 : q < 96) (r1 : VR (σ 14 q)) (r2 : VR (σ 16 q)) (R : RLB σ σ') : zr (zf_Machine_holds σ (Int32.ofNat t) (Int32.ofNat q)) (zf_Machine_holds σ' (Int32.ofNat t) (Int32.ofNat q)) (fun a b => a = b) := by
  have g : ∀ p, p ≠ 39 → p ≠ 40 → σ' p = σ p := R.1
  unfold zf_Machine_holds
  rw [zo_n (m := q) (by omega), g 14 (by decide) (by decide), g 15 (by decide) (by decide), g 16 (by decide) (by decide)]
  refine zr_chk fun _ => zr_bind (r_value t4 r1 R) fun a b e => zr_chk fun _ => zr_bind (r_value t4 r2 R) fun c d e' => zr_chk fun _ => ?_
  rw [← e, ← e']
  exact zr_ite (fun _ => zr_ite (fun _ => zr_some rfl) fun _ => zr_some rfl) fun _ => zr_ite (fun _ => zr_ite (fun _ => zr_some rfl) fun _ => zr_some rfl) fun _ => zr_ite (fun _ => zr_ite (fun _ => zr_some rfl) fun _ => zr_some rfl) fun _ => zr_ite (fun _ => zr_some rfl) fun _ => zr_some rfl
def G17 (c : Int32) (σ r : zS) : Prop := (∀ q, q ≠ 40 → r q = σ q) ∧ ∀ u, u < 4 → (¬ σ 36 u = c → r 40 (u + 1) = σ 40 (u + 1)) ∧ (W17 (σ 40 (u + 1)) (r 40 (u + 1)) ∨ P17 (σ 40 (u + 1)) (r 40 (u + 1)))
theorem G17.rf {c : Int32} {σ : zS} : G17 c σ σ := ⟨fun _ _ => rfl, fun u _ => ⟨fun _ => rfl, Or.inl W17.rf⟩⟩
theorem r_sig {N : Nat} {σ : zS} {l kd : Int32} : ∀ (n u : Nat) (s s' : zS) (mo : Int32), u ≤ 4 → RLB s s' → (∀ q, q ≠ 40 → s q = σ q) → (∀ v, v < 4 → (¬ σ 36 v = 2 → s 40 (v + 1) = σ 40 (v + 1)) ∧ (u ≤ v → s 40 (v + 1) = σ 40 (v + 1)) ∧ (W17 (σ 40 (v + 1)) (s 40 (v + 1)) ∨ P17 (σ 40 (v + 1)) (s 40 (v + 1)))) → (σ 4 2 ≤ 4) → zr (zb_Machine_signal_49 N n s l kd mo (Int32.ofNat u)) (zb_Machine_signal_49 N n s' l kd mo (Int32.ofNat u)) (fun r r' => r.1 = r'.1 ∧ RLB r.2 r'.2 ∧ G17 2 σ r.2) := by
  intro n
  induction n with
  | zero => intro _ _ _ _ _ _ _ _ _; exact zr_none
  | succ n ih =>
    intro u s s' mo u4 R fr fw m4
    rw [zb_Machine_signal_49, zb_Machine_signal_49]
    unfold zb_Machine_signal_119 zb_Machine_signal_121
    have g : ∀ p, p ≠ 39 → p ≠ 40 → s' p = s p := R.1
    have stop : zr (some ((1 : Int32), s)) (some ((1 : Int32), s')) (fun r r' => r.1 = r'.1 ∧ RLB r.2 r'.2 ∧ G17 2 σ r.2) := zr_some ⟨rfl, R, fr, fun v hv => ⟨(fw v hv).1, (fw v hv).2.2⟩⟩
    rw [g 4 (by decide) (by decide), g 8 (by decide) (by decide), r_how R, r_slot R]
    refine zr_ite (fun _ => stop) fun q => zr_ite (fun _ => stop) fun _ => ?_
    have lt : u < 4 := by
      by_cases c : u < 4
      · exact c
      · have e : u = 4 := by omega
        rw [fr 4 (by decide), e] at q
        exact absurd m4 q
    rw [zo_1 (m := u) (by omega)]
    have next : ∀ mo', zr (zb_Machine_signal_49 N n s l kd mo' (Int32.ofNat (u + 1))) (zb_Machine_signal_49 N n s' l kd mo' (Int32.ofNat (u + 1))) (fun r r' => r.1 = r'.1 ∧ RLB r.2 r'.2 ∧ G17 2 σ r.2) := fun mo' => ih (u + 1) s s' mo' (by omega) R fr (fun v hv => ⟨(fw v hv).1, fun h => (fw v hv).2.1 (by omega), (fw v hv).2.2⟩) m4
    refine zr_same fun r8 e8 => zr_ite (fun _ => next mo) fun y => zr_same fun r10 _ => zr_chk fun _ => zr_ite (fun _ => next mo) fun _ => zr_bind (r_step lt R) fun a b e => ?_
    rw [← e.1]
    have how : σ 36 u = 2 := by
      have := c_howOf lt r8 e8
      rw [fr 36 (by decide)] at this
      rw [← this]
      exact Classical.not_not.mp y
    refine zr_bind (r_place lt e.2 (by decide) R) fun r r' k => ?_
    have go : ∀ mo', zr (zb_Machine_signal_49 N n r l kd mo' (Int32.ofNat (u + 1))) (zb_Machine_signal_49 N n r' l kd mo' (Int32.ofNat (u + 1))) (fun r r' => r.1 = r'.1 ∧ RLB r.2 r'.2 ∧ G17 2 σ r.2) := fun mo' => by
      refine ih (u + 1) r r' mo' (by omega) k.1 (fun q hq => (k.2.1.1 q hq).trans (fr q hq)) (fun v hv => ?_) m4
      by_cases c : v = u
      · subst c
        refine ⟨fun h => absurd how h, fun h => absurd h (by omega), Or.inr ?_⟩
        have w := k.2.1.2.2
        rw [(fw v hv).2.1 (Nat.le_refl _)] at w
        exact w
      · rw [k.2.1.2.1 v hv c]
        exact ⟨(fw v hv).1, fun h => (fw v hv).2.1 (by omega), (fw v hv).2.2⟩
    exact zr_ite (fun _ => go 0) fun _ => go 1
theorem r_signal {N : Nat} {σ σ' : zS} {t q : Nat} (q96 : q < 96) (m4 : σ 4 2 ≤ 4) (R : RLB σ σ') : zr (zf_Machine_signal N σ (Int32.ofNat t) (Int32.ofNat q)) (zf_Machine_signal N σ' (Int32.ofNat t) (Int32.ofNat q)) (fun r r' => r.1 = r'.1 ∧ RLB r.2 r'.2 ∧ G17 2 σ r.2) := by
  have g : ∀ p, p ≠ 39 → p ≠ 40 → σ' p = σ p := R.1
  have go : ∀ l kd mo, zr (zb_Machine_signal_49 N N σ l kd mo 0) (zb_Machine_signal_49 N N σ' l kd mo 0) (fun r r' => r.1 = r'.1 ∧ RLB r.2 r'.2 ∧ G17 2 σ r.2) := fun l kd mo => r_sig N 0 σ σ' mo (by omega) R (fun _ _ => rfl) (fun v _ => ⟨fun _ => rfl, fun _ => rfl, Or.inl W17.rf⟩) m4
  unfold zf_Machine_signal zb_Machine_signal_44
  rw [zo_n (m := q) (by omega), g 7 (by decide) (by decide), g 8 (by decide) (by decide), r_own R]
  exact zr_chk fun _ => zr_chk fun _ => zr_same fun r3 _ => zr_ite (fun _ => zr_ite (fun _ => go _ _ _) fun _ => go _ _ _) fun _ => zr_some ⟨rfl, R, G17.rf⟩
theorem r_start {σ σ' : zS} {u S : Nat} (u4 : u < 4) (h5 : σ 5 u = Int32.ofNat S) (S24 : S ≤ 24) (R : RLB σ σ') : zr (zf_Machine_startThread σ (Int32.ofNat u)) (zf_Machine_startThread σ' (Int32.ofNat u)) (fun r r' => r.1 = r'.1 ∧ RLB r.2 r'.2 ∧ G17 0 σ r.2) := by
  unfold zf_Machine_startThread
  rw [r_how R]
  refine zr_same fun r1 e1 => zr_ite (fun z => zr_bind (r_goTo (z := 0) u4 h5 S24 (Nat.zero_le _) R) fun a b h => zr_some ⟨rfl, h.1, h.2.1, fun v hv => ?_⟩) fun _ => zr_some ⟨rfl, R, G17.rf⟩
  have how : σ 36 u = 0 := (c_howOf u4 r1 e1).symm.trans z
  by_cases c : v = u
  · subst c
    exact ⟨fun n => absurd how n, Or.inr h.2.2.2⟩
  · dsimp only
    rw [h.2.2.1 v hv c]
    exact ⟨fun _ => rfl, Or.inl W17.rf⟩
def M17 (t : Nat) (σ r : zS) : Prop := (∀ q, q ≠ 40 → r q = σ q) ∧ P17 (σ 40 (t + 1)) (r 40 (t + 1)) ∧ ∀ u, u < 4 → u ≠ t → (W17 (σ 40 (u + 1)) (r 40 (u + 1)) ∨ P17 (σ 40 (u + 1)) (r 40 (u + 1)))
theorem M17.mk {t : Nat} {σ s r : zS} (f : ∀ q, q ≠ 40 → s q = σ q) (w : W17 (σ 40 (t + 1)) (s 40 (t + 1))) (o : ∀ u, u < 4 → u ≠ t → (W17 (σ 40 (u + 1)) (s 40 (u + 1)) ∨ P17 (σ 40 (u + 1)) (s 40 (u + 1)))) (h : T17 t s r) : M17 t σ r := ⟨fun q hq => (h.1 q hq).trans (f q hq), w.p h.2.2, fun u hu ne => by rw [h.2.1 u hu ne]; exact o u hu ne⟩
theorem r_116 {N m t z : Nat} {len : Nat → Nat} {nc : Nat → Nat → Nat} {ρ μ σ σ' : zS} {k : Int32} (pc : PC m len nc ρ μ) (ht : t < m) (zL : z < len t) (g : ∀ q, 4 ≤ q → q ≤ 16 → σ q = ρ q) (h36 : (σ 36 t = 1 ∧ k = ρ 7 (24 * t + z)) ∨ (σ 36 t = 3 ∧ k = -1)) (R : RLB σ σ') : zr (zb_Machine_move_116 N σ (Int32.ofNat t) (Int32.ofNat (24 * t + z)) 1 (ρ 9 (24 * t + z)) k) (zb_Machine_move_116 N σ' (Int32.ofNat t) (Int32.ofNat (24 * t + z)) 1 (ρ 9 (24 * t + z)) k) (fun r r' => RLB r r' ∧ M17 t σ r) := by
  obtain ⟨⟨m4, e42, _⟩, p2, _, p4, _⟩ := pc
  have t4 : t < 4 := by omega
  obtain ⟨l24, e5, _⟩ := p2 t ht
  have q96 : 24 * t + z < 96 := by omega
  obtain ⟨k92, ⟨z1, zl1, e9, _, _⟩, ot, fd, nm, ld3, wv⟩ := p4 t z ht zL
  have K : ∀ c : Int32, ¬ c = -1 → k = c → ρ 7 (24 * t + z) = c ∧ σ 36 t = 1 := fun c n e => by
    rcases h36 with ⟨a, b⟩ | ⟨_, b⟩
    · exact ⟨b.symm.trans e, a⟩
    · exact absurd (e.symm.trans b) n
  have tl : ∀ (s s' : zS) (v : Int32) (z' : Nat), RLB s s' → (∀ q, q ≠ 40 → s q = σ q) → z' ≤ len t → W17 (σ 40 (t + 1)) (s 40 (t + 1)) → (∀ u, u < 4 → u ≠ t → (W17 (σ 40 (u + 1)) (s 40 (u + 1)) ∨ P17 (σ 40 (u + 1)) (s 40 (u + 1)))) → zr (zb_Machine_move_261 N s (Int32.ofNat t) (Int32.ofNat (24 * t + z)) v (Int32.ofNat z')) (zb_Machine_move_261 N s' (Int32.ofNat t) (Int32.ofNat (24 * t + z)) v (Int32.ofNat z')) (fun r r' => RLB r r' ∧ M17 t σ r) := fun s s' v z' R' f hz w o => zr_mono (r_tail t4 q96 (by rw [f 5 (by decide), g 5 (by decide) (by decide)]; exact e5) l24 hz R') fun r r' h => ⟨h.1, M17.mk f w o h.2⟩
  have t0 : ∀ (v : Int32) (z' : Nat), z' ≤ len t → zr (zb_Machine_move_261 N σ (Int32.ofNat t) (Int32.ofNat (24 * t + z)) v (Int32.ofNat z')) (zb_Machine_move_261 N σ' (Int32.ofNat t) (Int32.ofNat (24 * t + z)) v (Int32.ofNat z')) (fun r r' => RLB r r' ∧ M17 t σ r) := fun v z' hz => tl σ σ' v z' R (fun _ _ => rfl) hz W17.rf fun _ _ _ => Or.inl W17.rf
  have wk : ((σ 7 (24 * t + z) = 0 ∧ (∃ f, f < 6 ∧ σ 8 (24 * t + z) = Int32.ofNat f) ∧ ∃ j, j < 3 ∧ σ 13 (24 * t + z) = Int32.ofNat j) ∨ (σ 7 (24 * t + z) = 1 ∧ (∃ f, f < 6 ∧ σ 8 (24 * t + z) = Int32.ofNat f) ∧ σ 15 (24 * t + z) = -1 ∧ VR (σ 14 (24 * t + z))) ∨ (σ 7 (24 * t + z) = 2 ∧ (∃ j, j < 3 ∧ σ 13 (24 * t + z) = Int32.ofNat j) ∧ VR (σ 14 (24 * t + z)) ∧ (σ 15 (24 * t + z) = -1 ∨ ((σ 15 (24 * t + z) = 43 ∨ σ 15 (24 * t + z) = 45) ∧ VR (σ 16 (24 * t + z)))))) → zr ((zf_Machine_work σ (Int32.ofNat t) (Int32.ofNat (24 * t + z))).bind fun r49 => zb_Machine_move_261 N r49 (Int32.ofNat t) (Int32.ofNat (24 * t + z)) 1 (Int32.ofNat z1)) ((zf_Machine_work σ' (Int32.ofNat t) (Int32.ofNat (24 * t + z))).bind fun r49 => zb_Machine_move_261 N r49 (Int32.ofNat t) (Int32.ofNat (24 * t + z)) 1 (Int32.ofNat z1)) (fun r r' => RLB r r' ∧ M17 t σ r) := fun hk => zr_bind (r_work t4 q96 R hk) fun a b h => tl a b 1 z1 h.1 h.2.1 zl1 (h.2.2 t t4).2 fun u hu _ => Or.inl (h.2.2 u hu).2
  have hd : (k = 5 ∨ k = 6 ∨ k = 12) → zr (zf_Machine_holds σ (Int32.ofNat t) (Int32.ofNat (24 * t + z))) (zf_Machine_holds σ' (Int32.ofNat t) (Int32.ofNat (24 * t + z))) (fun a b => a = b) := fun hk => by
    have k7 : ρ 7 (24 * t + z) = 5 ∨ ρ 7 (24 * t + z) = 6 ∨ ρ 7 (24 * t + z) = 12 := by
      rcases hk with e | e | e
      · exact Or.inl (K 5 (by decide) e).1
      · exact Or.inr (Or.inl (K 6 (by decide) e).1)
      · exact Or.inr (Or.inr (K 12 (by decide) e).1)
    obtain ⟨_, _, _, v1, v2⟩ := wv.2.2.2 k7
    exact r_holds t4 q96 (by rw [g 14 (by decide) (by decide)]; exact v1) (by rw [g 16 (by decide) (by decide)]; exact v2) R
  have sg : (k = 7 ∨ k = 8 ∨ k = 9) → zr ((zf_Machine_signal N σ (Int32.ofNat t) (Int32.ofNat (24 * t + z))).bind fun r40 => zb_Machine_move_261 N r40.2 (Int32.ofNat t) (Int32.ofNat (24 * t + z)) r40.1 (Int32.ofNat z1)) ((zf_Machine_signal N σ' (Int32.ofNat t) (Int32.ofNat (24 * t + z))).bind fun r40 => zb_Machine_move_261 N r40.2 (Int32.ofNat t) (Int32.ofNat (24 * t + z)) r40.1 (Int32.ofNat z1)) (fun r r' => RLB r r' ∧ M17 t σ r) := fun hk => by
    have how : σ 36 t = 1 := by
      rcases hk with e | e | e
      · exact (K 7 (by decide) e).2
      · exact (K 8 (by decide) e).2
      · exact (K 9 (by decide) e).2
    refine zr_bind (r_signal q96 (by rw [g 4 (by decide) (by decide), e42]; exact (zo_le (k := m) (j := 4) (by omega) (by omega)).mpr m4) R) fun a b h => ?_
    rw [← h.1]
    exact tl a.2 b.2 a.1 z1 h.2.1 h.2.2.1 zl1 (by rw [(h.2.2.2 t t4).1 (by rw [how]; decide)]; exact W17.rf) fun u hu _ => (h.2.2.2 u hu).2
  have br : (k = 5 ∨ k = 6) → zr ((zf_Machine_holds σ (Int32.ofNat t) (Int32.ofNat (24 * t + z))).bind fun r44 => if r44 = 0 then (if 0 ≤ Int32.ofNat (24 * t + z) ∧ Int32.ofNat (24 * t + z) < 97 then zb_Machine_move_261 N σ (Int32.ofNat t) (Int32.ofNat (24 * t + z)) 1 (σ 10 (24 * t + z)) else none) else zb_Machine_move_261 N σ (Int32.ofNat t) (Int32.ofNat (24 * t + z)) 1 (Int32.ofNat z1)) ((zf_Machine_holds σ' (Int32.ofNat t) (Int32.ofNat (24 * t + z))).bind fun r44 => if r44 = 0 then (if 0 ≤ Int32.ofNat (24 * t + z) ∧ Int32.ofNat (24 * t + z) < 97 then zb_Machine_move_261 N σ' (Int32.ofNat t) (Int32.ofNat (24 * t + z)) 1 (σ 10 (24 * t + z)) else none) else zb_Machine_move_261 N σ' (Int32.ofNat t) (Int32.ofNat (24 * t + z)) 1 (Int32.ofNat z1)) (fun r r' => RLB r r' ∧ M17 t σ r) := fun hk => by
    obtain ⟨z2, zl2, e10, _⟩ := ot (by
      rw [← k92]
      rcases hk with e | e
      · exact Or.inl (K 5 (by decide) e).1
      · exact Or.inr (K 6 (by decide) e).1)
    rw [g 10 (by decide) (by decide), e10]
    refine zr_bind (hd (by rcases hk with e | e <;> rw [e] <;> decide)) fun a b e => ?_
    rw [← e]
    exact zr_ite (fun _ => zr_chk fun _ => t0 1 z2 zl2) fun _ => t0 1 z1 zl1
  unfold zb_Machine_move_116 zb_Machine_move_216
  rw [zo_n (m := 24 * t + z) (by omega), R.1 8 (by decide) (by decide), R.1 10 (by decide) (by decide), e9]
  refine zr_ite (fun e => wk ?_) fun _ => zr_ite (fun e => wk ?_) fun _ => zr_ite (fun e => wk ?_) fun _ => zr_ite (fun _ => t0 1 z1 zl1) fun _ => zr_ite (fun _ => t0 1 z1 zl1) fun _ => zr_ite (fun e => br (Or.inl e)) fun _ => zr_ite (fun e => br (Or.inr e)) fun _ => zr_ite (fun e => sg (Or.inl e)) fun _ => zr_ite (fun e => sg (Or.inr (Or.inl e))) fun _ => zr_ite (fun e => sg (Or.inr (Or.inr e))) fun _ => zr_ite (fun e => zr_chk fun _ => ?_) fun _ => zr_ite (fun _ => t0 1 z1 zl1) fun _ => zr_ite (fun e => zr_bind (hd (Or.inr (Or.inr e))) fun a b h => ?_) fun _ => t0 1 z1 zl1
  · have k7 := (K 0 (by decide) e).1
    refine Or.inl ⟨by rw [g 7 (by decide) (by decide)]; exact k7, ?_, ?_⟩
    · obtain ⟨f, hf, e8, _⟩ := fd (by rw [← k92, k7]; decide)
      exact ⟨f, hf, by rw [g 8 (by decide) (by decide)]; exact e8⟩
    · obtain ⟨j, hj, e13, _⟩ := ld3 (by rw [← k92, k7]; decide)
      exact ⟨j, hj, by rw [g 13 (by decide) (by decide)]; exact e13⟩
  · have k7 := (K 1 (by decide) e).1
    obtain ⟨_, y3, y2⟩ := wv.2.1 k7
    refine Or.inr (Or.inl ⟨by rw [g 7 (by decide) (by decide)]; exact k7, ?_, by rw [g 15 (by decide) (by decide)]; exact y3, by rw [g 14 (by decide) (by decide)]; exact y2⟩)
    obtain ⟨f, hf, e8, _⟩ := fd (by rw [← k92, k7]; decide)
    exact ⟨f, hf, by rw [g 8 (by decide) (by decide)]; exact e8⟩
  · have k7 := (K 2 (by decide) e).1
    obtain ⟨_, _, y2, y3⟩ := wv.2.2.1 k7
    refine Or.inr (Or.inr ⟨by rw [g 7 (by decide) (by decide)]; exact k7, ?_, by rw [g 14 (by decide) (by decide)]; exact y2, ?_⟩)
    · obtain ⟨j, hj, e13, _⟩ := ld3 (by rw [← k92, k7]; decide)
      exact ⟨j, hj, by rw [g 13 (by decide) (by decide)]; exact e13⟩
    · rw [g 15 (by decide) (by decide), g 16 (by decide) (by decide)]
      rcases y3 with ⟨a, _⟩ | ⟨a, _, _, b⟩
      · exact Or.inl a
      · exact Or.inr ⟨a, b⟩
  · have k7 := K 10 (by decide) e
    obtain ⟨l, l4, e8, _, lm⟩ := nm (by rw [← k92, k7.1]; decide)
    have lm := lm (by rw [← k92, k7.1]; decide)
    rw [g 8 (by decide) (by decide), e8]
    refine zr_bind (r_start l4 (S := len l) (by rw [g 5 (by decide) (by decide)]; exact (p2 l lm).2.1) (p2 l lm).1 R) fun a b h => ?_
    rw [← h.1]
    exact tl a.2 b.2 a.1 z1 h.2.1 h.2.2.1 zl1 (by rw [(h.2.2.2 t t4).1 (by rw [k7.2]; decide)]; exact W17.rf) fun u hu _ => (h.2.2.2 u hu).2
  · rw [← h]
    exact t0 a z1 zl1
def P18 (b : Bool) (w : Int32) : Prop := gb w 17 = (if how17 w = 4 ∨ how17 w = 5 then false else b)
theorem r_move {N m t z : Nat} {len : Nat → Nat} {nc : Nat → Nat → Nat} {ρ μ σ σ' : zS} {sp : Int32} (pc : PC m len nc ρ μ) (ht : t < m) (zL : z < len t) (g : ∀ q, 4 ≤ q → q ≤ 16 → σ q = ρ q) (h37 : σ 37 t = Int32.ofNat (24 * t + z)) (h36 : σ 36 t = 1 ∨ σ 36 t = 3) (ns : ¬ sp = -1) (R0 : (∀ q, q ≠ 39 → q ≠ 40 → σ' q = σ q) ∧ σ' 39 0 = σ 39 0 ∧ ∀ u, u < 4 → MK (σ 39 (u + 1)) (σ' 39 (u + 1))) : zr (zf_Machine_move N σ (Int32.ofNat t) sp) (zf_Machine_move N σ' (Int32.ofNat t) (-1)) (fun r r' => RLB r r' ∧ (∀ q, q ≠ 40 → r q = σ q) ∧ (ρ 12 (24 * t + z) = sp → P18 true (r 40 (t + 1))) ∧ (¬ ρ 12 (24 * t + z) = sp → P18 false (r 40 (t + 1))) ∧ ∀ u, u < 4 → u ≠ t → (W17 (σ 39 (u + 1)) (r 40 (u + 1)) ∨ P17 (σ 39 (u + 1)) (r 40 (u + 1)))) := by
  have pc' := pc
  obtain ⟨⟨m4, e42, _⟩, p2, _, p4, _⟩ := pc
  have t4 : t < 4 := by omega
  have l24 := (p2 t ht).1
  have q96 : 24 * t + z < 96 := by omega
  have cC : ∀ ν : zS, (∀ p, p ≠ 40 → (zJ_copy ν 39 40 0 0 5) p = ν p) ∧ ∀ i, i < 5 → (zJ_copy ν 39 40 0 0 5) 40 i = ν 39 i := fun ν => ⟨fun p hp => zJ_copy_ne hp, fun i hi => by
    unfold zJ_copy va_cpy
    rw [if_pos rfl, show (5 : Int32).toNatClampNeg = 5 from rfl, show (0 : Int32).toNatClampNeg = 0 from rfl, if_pos (by omega), Nat.zero_add, Nat.sub_zero]⟩
  have main : ∀ (ib : Int32) (b : Bool), (ib = 0 ∧ b = false) ∨ (ib = 1 ∧ b = true) → zr (zb_Machine_move_39 N σ (Int32.ofNat t) (Int32.ofNat (24 * t + z)) ib) (zb_Machine_move_39 N σ' (Int32.ofNat t) (Int32.ofNat (24 * t + z)) 0) (fun r r' => RLB r r' ∧ (∀ q, q ≠ 40 → r q = σ q) ∧ P18 b (r 40 (t + 1)) ∧ ∀ u, u < 4 → u ≠ t → (W17 (σ 39 (u + 1)) (r 40 (u + 1)) ∨ P17 (σ 39 (u + 1)) (r 40 (u + 1)))) := fun ib b hb => by
    have ibb : ∀ i, i < 32 → gb (zJ_shl ib 17) i = (decide (i = 17) && b) := fun i hi => by
      rw [show (17 : Int32) = Int32.ofNat 17 from rfl, gb_shl (by omega) hi]
      rcases hb with ⟨e, e'⟩ | ⟨e, e'⟩
      · rw [e, e', gb_zero, Bool.and_false, Bool.and_false]
      · rw [e, e', Bool.and_true]
        by_cases c : 17 ≤ i
        · rw [decide_eq_true c, Bool.true_and, show gb 1 (i - 17) = decide (i - 17 = 0) from gb_one ⟨i - 17, by omega⟩]
          by_cases d : i = 17
          · rw [decide_eq_true d, decide_eq_true (by omega)]
          · rw [decide_eq_false d, decide_eq_false (by omega)]
        · rw [decide_eq_false c, Bool.false_and, decide_eq_false (by omega)]
    unfold zb_Machine_move_39
    rw [zo_1 (m := t) (by omega), zo_n (m := t + 1) (by omega), zo_n (m := 24 * t + z) (by omega), (cC σ).1 39 (by decide), (cC σ').1 39 (by decide), (cC σ).1 9 (by decide), (cC σ').1 9 (by decide), (cC σ).1 7 (by decide), (cC σ').1 7 (by decide), R0.1 9 (by decide) (by decide), R0.1 7 (by decide) (by decide), g 9 (by decide) (by decide), g 7 (by decide) (by decide)]
    have C := cC σ
    have C' := cC σ'
    generalize (zJ_copy σ 39 40 0 0 5) = X at *
    generalize (zJ_copy σ' 39 40 0 0 5) = X' at *
    have RX : RLB X X' := ⟨fun q a b => by rw [C.1 q b, C'.1 q b]; exact R0.1 q a b, ⟨by rw [C.1 39 (by decide), C'.1 39 (by decide)]; exact R0.2.1, by rw [C.2 0 (by omega), C'.2 0 (by omega)]; exact R0.2.1⟩, fun u hu => ⟨by rw [C.1 39 (by decide), C'.1 39 (by decide)]; exact R0.2.2 u hu, by rw [C.2 (u + 1) (by omega), C'.2 (u + 1) (by omega)]; exact R0.2.2 u hu⟩⟩
    have mk : MK ((σ 39 (t + 1) &&& (-131073)) ||| zJ_shl ib 17) ((σ' 39 (t + 1) &&& (-131073)) ||| zJ_shl 0 17) := fun i hi n => by
      rw [gb_or, gb_or, gb_and, gb_and, R0.2.2 t t4 i hi n, ibb i hi, decide_eq_false n, show (17 : Int32) = Int32.ofNat 17 from rfl, gb_shl (by omega) hi, gb_zero, Bool.false_and, Bool.and_false]
    have RS := RX.up (t := t) mk
    have S40 : (zx_up X 40 (t + 1) ((σ 39 (t + 1) &&& (-131073)) ||| zJ_shl ib 17)) 40 (t + 1) = (σ 39 (t + 1) &&& (-131073)) ||| zJ_shl ib 17 := by rw [zx_up_same, zu_eq]
    have So : ∀ u, u < 4 → u ≠ t → (zx_up X 40 (t + 1) ((σ 39 (t + 1) &&& (-131073)) ||| zJ_shl ib 17)) 40 (u + 1) = σ 39 (u + 1) := fun u hu ne => by rw [zx_up_same, zu_ne (by omega)]; exact C.2 (u + 1) (by omega)
    have Sq : ∀ q, q ≠ 40 → (zx_up X 40 (t + 1) ((σ 39 (t + 1) &&& (-131073)) ||| zJ_shl ib 17)) q = σ q := fun q hq => by rw [zu_other hq]; exact C.1 q hq
    have b17 : gb ((σ 39 (t + 1) &&& (-131073)) ||| zJ_shl ib 17) 17 = b := by rw [gb_or, clr17, ibb 17 (by omega), Bool.false_or, decide_eq_true rfl, Bool.true_and]
    generalize (zx_up X 40 (t + 1) ((σ 39 (t + 1) &&& (-131073)) ||| zJ_shl ib 17)) = S at *
    generalize (zx_up X' 40 (t + 1) ((σ' 39 (t + 1) &&& (-131073)) ||| zJ_shl 0 17)) = S' at *
    have fin : ∀ k : Int32, (σ 36 t = 1 ∧ k = ρ 7 (24 * t + z)) ∨ (σ 36 t = 3 ∧ k = -1) → zr (zb_Machine_move_116 N S (Int32.ofNat t) (Int32.ofNat (24 * t + z)) 1 (ρ 9 (24 * t + z)) k) (zb_Machine_move_116 N S' (Int32.ofNat t) (Int32.ofNat (24 * t + z)) 1 (ρ 9 (24 * t + z)) k) (fun r r' => RLB r r' ∧ (∀ q, q ≠ 40 → r q = σ q) ∧ P18 b (r 40 (t + 1)) ∧ ∀ u, u < 4 → u ≠ t → (W17 (σ 39 (u + 1)) (r 40 (u + 1)) ∨ P17 (σ 39 (u + 1)) (r 40 (u + 1)))) := fun k hk => by
      refine zr_mono (r_116 pc' ht zL (fun q a b => (Sq q (by omega)).trans (g q a b)) (by rw [Sq 36 (by decide)]; exact hk) RS) fun r r' h => ⟨h.1, fun q hq => (h.2.1 q hq).trans (Sq q hq), ?_, fun u hu ne => ?_⟩
      · have w := h.2.2.1
        unfold P17 at w
        rw [S40, b17] at w
        exact w
      · have w := h.2.2.2 u hu ne
        rw [So u hu ne] at w
        exact w
    rw [r_how RS]
    refine zr_chk fun _ => zr_chk fun _ => zr_chk fun _ => zr_same fun r9 e9 => ?_
    have e9 := c_howOf t4 r9 e9
    rw [Sq 36 (by decide)] at e9
    exact zr_ite (fun n => zr_chk fun _ => fin _ (Or.inl ⟨h36.resolve_right fun q => n (e9.trans q), rfl⟩)) fun y => fin _ (Or.inr ⟨e9.symm.trans (Classical.not_not.mp y), rfl⟩)
  have lt4 : Int32.ofNat t < 4 := (zo_lt (k := t) (j := 4) (by omega) (by omega)).mpr t4
  have nlt : ¬ Int32.ofNat t < 0 := fun q => by
    have := (zo_lt (k := t) (j := 0) (by omega) (by omega)).mp q
    omega
  have nge : ¬ (4 : Int32) ≤ Int32.ofNat t := Int32.not_le.mpr lt4
  unfold zf_Machine_move zb_Machine_move_38
  refine zr_ite (fun q => absurd q nlt) fun _ => zr_ite (fun _ => zr_bind (S := fun a b => a = Int32.ofNat (24 * t + z) ∧ b = Int32.ofNat (24 * t + z)) ?_ fun a b h => ?_) fun q => absurd lt4 q
  · unfold zf_Machine_slotOf
    rw [zo_n (m := t) (by omega), R0.1 37 (by decide) (by decide)]
    exact zr_ite (fun q => absurd q nlt) fun _ => zr_ite (fun q => absurd q nge) fun _ => zr_chk fun _ => zr_some ⟨h37, h37⟩
  · obtain ⟨ea, eb⟩ := h
    subst ea eb
    have c97 : 0 ≤ Int32.ofNat (24 * t + z) ∧ Int32.ofNat (24 * t + z) < 97 := ⟨(zo_le (k := 0) (j := 24 * t + z) (by omega) (by omega)).mpr (Nat.zero_le _), (zo_lt (k := 24 * t + z) (j := 97) (by omega) (by omega)).mpr (by omega)⟩
    rw [if_neg ns, if_pos (show (-1 : Int32) = -1 from rfl), if_pos c97, zo_n (m := 24 * t + z) (by omega), g 12 (by decide) (by decide)]
    by_cases c : ρ 12 (24 * t + z) = sp
    · rw [if_neg (fun n => n c)]
      exact zr_mono (main 1 true (Or.inr ⟨rfl, rfl⟩)) fun r r' h => ⟨h.1, h.2.1, fun _ => h.2.2.1, fun n => absurd c n, h.2.2.2⟩
    · rw [if_pos c]
      exact zr_mono (main 0 false (Or.inl ⟨rfl, rfl⟩)) fun r r' h => ⟨h.1, h.2.1, fun e => absurd e c, fun _ => h.2.2.1, h.2.2.2⟩
