-- both answer alike
set_option maxRecDepth 2000
def EDG (σ : zS) (len : Nat → Nat) (t s s' : Nat) : Prop := s < len t ∧ s' < len t ∧ (σ 9 (24 * t + s) = Int32.ofNat s' ∨ σ 10 (24 * t + s) = Int32.ofNat s')
theorem sel_bits {x : Int32} {L s : Nat} (hL : L ≤ 24) (hs : s < 24) : (x < 0 → ¬ (s < L ∧ x = Int32.ofNat s)) ∧ (Int32.ofNat L ≤ x → ¬ (s < L ∧ x = Int32.ofNat s)) ∧ (¬ x < 0 → ¬ Int32.ofNat L ≤ x → (bit (zJ_shl 1 x) s ↔ (s < L ∧ x = Int32.ofNat s))) := by
  refine ⟨fun h w => ?_, fun h w => ?_, fun h0 h1 => ?_⟩
  · rw [w.2] at h
    have := (zo_lt (k := s) (j := 0) (by omega) (by omega)).mp h
    omega
  · rw [w.2] at h
    have := (zo_le (k := L) (j := s) (by omega) (by omega)).mp h
    omega
  · have xt : x = Int32.ofNat x.toNatClampNeg := (zo_mk (Int32.not_lt.mp h0)).symm
    have a := z_nat (Int32.not_lt.mp h0)
    have b := Int32.lt_iff_toInt_lt.mp (Int32.not_le.mp h1)
    rw [zo_ti (by omega)] at b
    have n24 : x.toNatClampNeg < 24 := by omega
    rw [xt, bit_shl n24 hs]
    constructor
    · intro e; exact ⟨by omega, by rw [e]⟩
    · intro w
      exact (zo_inj (by omega) (by omega) w.2).symm
theorem p_behind_bits {σ : zS} {a b : Int32} {L : Nat} (hL : L ≤ 24) : zp (if a < 0 then zb_Judge_behind_61 σ b (Int32.ofNat L) else if Int32.ofNat L ≤ a then zb_Judge_behind_61 σ b (Int32.ofNat L) else zb_Judge_behind_62 σ b (Int32.ofNat L) (zJ_shl 1 a)) (fun r => ∀ s, s < 24 → (bit r s ↔ (s < L ∧ (a = Int32.ofNat s ∨ b = Int32.ofNat s)))) := by
  have B : ∀ s0 : Int32, zp (zb_Judge_behind_62 σ b (Int32.ofNat L) s0) (fun r => ∀ s, s < 24 → (bit r s ↔ (bit s0 s ∨ (s < L ∧ b = Int32.ofNat s)))) := by
    intro s0
    unfold zb_Judge_behind_62
    refine zp_ite (fun c => zp_some fun s hs => ?_) fun c0 => zp_ite (fun c => zp_some fun s hs => ?_) fun c1 => zp_some fun s hs => ?_
    · have n := (sel_bits (x := b) hL hs).1 c
      exact ⟨Or.inl, fun h => h.resolve_right n⟩
    · have n := (sel_bits (x := b) hL hs).2.1 c
      exact ⟨Or.inl, fun h => h.resolve_right n⟩
    · rw [bit_or hs, (sel_bits (x := b) hL hs).2.2 c0 c1]
  have Z : ∀ s, s < 24 → (bit 0 s ↔ False) := fun s hs => ⟨fun h => bit_zero hs h, False.elim⟩
  unfold zb_Judge_behind_61
  refine zp_ite (fun c => zp_mono (B 0) fun r hr s hs => ?_) fun c0 => zp_ite (fun c => zp_mono (B 0) fun r hr s hs => ?_) fun c1 => zp_mono (B _) fun r hr s hs => ?_
  · have n := (sel_bits (x := a) hL hs).1 c
    rw [hr s hs, Z s hs]
    exact ⟨fun h => h.elim False.elim fun w => ⟨w.1, Or.inr w.2⟩, fun h => Or.inr ⟨h.1, h.2.resolve_left fun e => n ⟨h.1, e⟩⟩⟩
  · have n := (sel_bits (x := a) hL hs).2.1 c
    rw [hr s hs, Z s hs]
    exact ⟨fun h => h.elim False.elim fun w => ⟨w.1, Or.inr w.2⟩, fun h => Or.inr ⟨h.1, h.2.resolve_left fun e => n ⟨h.1, e⟩⟩⟩
  · rw [hr s hs, (sel_bits (x := a) hL hs).2.2 c0 c1]
    exact ⟨fun h => h.elim (fun w => ⟨w.1, Or.inl w.2⟩) fun w => ⟨w.1, Or.inr w.2⟩, fun h => h.2.elim (fun e => Or.inl ⟨h.1, e⟩) fun e => Or.inr ⟨h.1, e⟩⟩
theorem p_behind {σ : zS} {len : Nat → Nat} {t s : Nat} (ht : t < 4) (hs : s < 24) (h5 : σ 5 t = Int32.ofNat (len t)) (hl : len t ≤ 24) (nw : NWC σ σ) : zp (zf_Judge_behind σ (Int32.ofNat t) (Int32.ofNat s)) (fun r => ∀ s', s' < 24 → (bit r s' ↔ EDG σ len t s s')) := by
  unfold zf_Judge_behind
  refine zp_bind (zp_mono (p_X_slotOf2 ht hs) fun r1 hr1 => zp_chk fun _ => zp_chk fun _ => zp_bind (zp_mono (p_X_lengthOf ht) fun r4 e4 => ?_))
  rw [h5] at e4 hr1
  subst e4
  rcases hr1 with ⟨lt, e1⟩ | ⟨nl, e1⟩
  · have sl : s < len t := (zo_lt (by omega) (by omega)).mp lt
    rw [e1, zo_n (by omega)]
    refine zp_mono (p_behind_bits hl) fun r hr s' hs' => ?_
    rw [hr s' hs']
    exact ⟨fun h => ⟨sl, h.1, h.2⟩, fun h => ⟨h.2.1, h.2.2⟩⟩
  · have sl : ¬ s < len t := fun h => nl ((zo_lt (by omega) (by omega)).mpr h)
    rw [e1, show (96 : Int32).toNatClampNeg = 96 from rfl, nw.2.2.1, nw.2.2.2.1]
    refine zp_mono (p_behind_bits hl) fun r hr s' hs' => ?_
    rw [hr s' hs']
    refine ⟨fun h => ?_, fun h => absurd h.1 sl⟩
    have ne : ¬ (-1 : Int32) = Int32.ofNat s' := fun q => zo_ne (by omega) q.symm
    exact absurd h.2 (fun w => w.elim ne ne)
def CLO (E : Nat → Nat → Prop) (F C : Nat → Prop) (s : Nat) : Prop := ∀ S : Nat → Prop, (∀ x, F x → S x) → (∀ x y, S x → ¬ C x → E x y → S y) → S s
theorem CLO.frm {E : Nat → Nat → Prop} {F C : Nat → Prop} {s : Nat} (h : F s) : CLO E F C s := fun _ a _ => a s h
theorem CLO.nxt {E : Nat → Nat → Prop} {F C : Nat → Prop} {x y : Nat} (h : CLO E F C x) (n : ¬ C x) (e : E x y) : CLO E F C y := fun S a b => b x y (h S a b) n e
theorem CLO.congr {E E' : Nat → Nat → Prop} {F F' C C' : Nat → Prop} {s : Nat} (e : ∀ x y, E x y ↔ E' x y) (f : ∀ x, F x ↔ F' x) (c : ∀ x, C x ↔ C' x) : CLO E F C s ↔ CLO E' F' C' s := by
  constructor
  · intro h S a b
    exact h S (fun x hx => a x ((f x).mp hx)) fun x y p q r => b x y p (fun w => q ((c x).mpr w)) ((e x y).mp r)
  · intro h S a b
    exact h S (fun x hx => a x ((f x).mpr hx)) fun x y p q r => b x y p (fun w => q ((c x).mp w)) ((e x y).mpr r)
noncomputable def cnt (v : Int32) : Nat → Nat
  | 0 => 0
  | n + 1 => cnt v n + @ite Nat (bit v n) (Classical.propDecidable _) 1 0
theorem cnt_le {v : Int32} : ∀ n, cnt v n ≤ n := by
  intro n
  induction n with
  | zero => exact Nat.le_refl _
  | succ n ih =>
    rw [cnt]
    by_cases c : bit v n
    · rw [if_pos c]; omega
    · rw [if_neg c]; omega
theorem cnt_full {v : Int32} : ∀ n, n ≤ cnt v n → ∀ s, s < n → bit v s := by
  intro n
  induction n with
  | zero => intro _ s hs; exact absurd hs (Nat.not_lt_zero _)
  | succ n ih =>
    intro h s hs
    rw [cnt] at h
    have l := cnt_le (v := v) n
    by_cases c : bit v n
    · rw [if_pos c] at h
      by_cases e : s = n
      · rw [e]; exact c
      · exact ih (by omega) s (by omega)
    · rw [if_neg c] at h
      omega
theorem cnt_mono {v w : Int32} : ∀ n, (∀ s, s < n → bit v s → bit w s) → cnt v n ≤ cnt w n := by
  intro n
  induction n with
  | zero => intro _; exact Nat.le_refl _
  | succ n ih =>
    intro h
    rw [cnt, cnt]
    have a := ih fun s hs => h s (by omega)
    by_cases c : bit v n
    · rw [if_pos c, if_pos (h n (by omega) c)]; omega
    · rw [if_neg c]; omega
theorem cnt_lt {v w : Int32} : ∀ n, (∀ s, s < n → bit v s → bit w s) → (∃ s, s < n ∧ bit w s ∧ ¬ bit v s) → cnt v n < cnt w n := by
  intro n
  induction n with
  | zero => rintro _ ⟨s, hs, _⟩; exact absurd hs (Nat.not_lt_zero _)
  | succ n ih =>
    rintro h ⟨s, hs, w1, w2⟩
    rw [cnt, cnt]
    have a := cnt_mono (v := v) (w := w) n fun s hs => h s (by omega)
    by_cases e : s = n
    · rw [e] at w1 w2
      rw [if_neg w2, if_pos w1]; omega
    · have b := ih (fun s hs => h s (by omega)) ⟨s, by omega, w1, w2⟩
      by_cases c : bit v n
      · rw [if_pos c, if_pos (h n (by omega) c)]; omega
      · rw [if_neg c]; omega
