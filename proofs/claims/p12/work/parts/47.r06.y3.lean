-- both answer alike
set_option maxRecDepth 2000
def LOW (v : Int32) : Prop := ∀ i, 24 ≤ i → v.toBitVec.getLsbD i = false
theorem LOW.zero : LOW 0 := fun i _ => by
  show (0#32).getLsbD i = false
  exact BitVec.getLsbD_zero
theorem LOW.or {a b : Int32} (ha : LOW a) (hb : LOW b) : LOW (a ||| b) := fun i hi => by
  rw [Int32.toBitVec_or, BitVec.getLsbD_or, ha i hi, hb i hi]; rfl
theorem LOW.shl {n : Nat} (hn : n < 24) : LOW (zJ_shl 1 (Int32.ofNat n)) := fun i hi => by
  have P : ∀ k : Fin 24, ∀ i : Fin 32, (zJ_shl 1 (Int32.ofNat k.val)).toBitVec.getLsbD i.val = decide (i.val = k.val) := by decide +kernel
  by_cases c : i < 32
  · have p := P ⟨n, hn⟩ ⟨i, c⟩
    dsimp only at p
    rw [p, decide_eq_false (by omega)]
  · exact BitVec.getLsbD_of_ge _ _ (by omega)
theorem LOW.ext {a b : Int32} (ha : LOW a) (hb : LOW b) (h : ∀ s, s < 24 → (bit a s ↔ bit b s)) : a = b := by
  apply Int32.toBitVec_inj.mp
  apply BitVec.eq_of_getLsbD_eq
  intro i _
  by_cases c : i < 24
  · have e := h i c
    rw [bit_iff c, bit_iff c] at e
    cases x : a.toBitVec.getLsbD i
    · cases y : b.toBitVec.getLsbD i
      · rfl
      · have := e.mpr y
        rw [x] at this
        exact this
    · rw [e.mp x]
  · rw [ha i (by omega), hb i (by omega)]
theorem p_behindL {σ : zS} {len : Nat → Nat} {t : Nat} {x : Int32} (ht : t < 4) (h5 : σ 5 t = Int32.ofNat (len t)) (hl : len t ≤ 24) : zp (zf_Judge_behind σ (Int32.ofNat t) x) (fun r => LOW r) := by
  unfold zf_Judge_behind
  have S : ∀ y : Int32, ¬ y < 0 → ¬ Int32.ofNat (len t) ≤ y → LOW (zJ_shl 1 y) := fun y h0 h1 => by
    have yt : y = Int32.ofNat y.toNatClampNeg := (zo_mk (Int32.not_lt.mp h0)).symm
    have a := z_nat (Int32.not_lt.mp h0)
    have b := Int32.lt_iff_toInt_lt.mp (Int32.not_le.mp h1)
    rw [zo_ti (by omega)] at b
    rw [yt]
    exact LOW.shl (by omega)
  have B : ∀ (b s0 : Int32), LOW s0 → zp (zb_Judge_behind_62 σ b (Int32.ofNat (len t)) s0) (fun r => LOW r) := fun b s0 h => by
    unfold zb_Judge_behind_62
    exact zp_ite (fun _ => zp_some h) fun c0 => zp_ite (fun _ => zp_some h) fun c1 => zp_some (h.or (S b c0 c1))
  unfold zb_Judge_behind_61
  refine zp_bind fun r1 _ => zp_chk fun _ => zp_chk fun _ => zp_bind (zp_mono (p_X_lengthOf ht) fun r4 e4 => ?_)
  rw [h5] at e4
  subst e4
  exact zp_ite (fun _ => B _ 0 LOW.zero) fun c0 => zp_ite (fun _ => B _ 0 LOW.zero) fun c1 => B _ _ (S _ c0 c1)
theorem p_spread {N : Nat} {σ : zS} {len : Nat → Nat} {t : Nat} {fr cut : Int32} (ht : t < 4) (h5 : σ 5 t = Int32.ofNat (len t)) (hl : len t ≤ 24) (nw : NWC σ σ) (lf : LOW fr) : zp (zf_Judge_spread N σ (Int32.ofNat t) fr cut) (fun r => LOW r ∧ ∀ s, s < 24 → (bit r s ↔ CLO (EDG σ len t) (fun s => s < 24 ∧ bit fr s) (fun s => bit cut s) s)) := by
  unfold zf_Judge_spread
  have in20 : ∀ (k6 : zS → Int32 → Int32 → Int32 → Int32 → Option Int32) (v5 v6 : Int32) (Q : Int32 → Prop), (∀ v4, LOW v4 → (∀ s, s < 24 → bit v6 s → bit v4 s) → (∀ s, s < 24 → bit v4 s → CLO (EDG σ len t) (fun s => s < 24 ∧ bit fr s) (fun s => bit cut s) s) → (∀ x, x < 24 → bit v6 x → ¬ bit cut x → ∀ y, y < 24 → EDG σ len t x y → bit v4 y) → (v4 ≠ v6 → zp (k6 σ (Int32.ofNat t) cut v4 (v5 + 1)) Q) ∧ (v4 = v6 → Q v4)) → ∀ (n q : Nat) (v4 : Int32), q ≤ 24 → LOW v4 → (∀ s, s < 24 → bit v6 s → bit v4 s) → (∀ s, s < 24 → bit v4 s → CLO (EDG σ len t) (fun s => s < 24 ∧ bit fr s) (fun s => bit cut s) s) → (∀ x, x < q → bit v6 x → ¬ bit cut x → ∀ y, y < 24 → EDG σ len t x y → bit v4 y) → zp (zb_Judge_spread_20 k6 N n σ (Int32.ofNat t) cut v4 v5 v6 (Int32.ofNat q)) Q := by
    intro k6 v5 v6 Q kont n
    induction n with
    | zero => intro _ _ _ _ _ _ _; exact zp_none
    | succ n ih =>
      intro q v4 hq l4 sub snd cls
      rw [zb_Judge_spread_20]
      unfold zb_Judge_spread_53
      refine zp_ite (fun z => ?_) fun z => ?_
      · have q24 : q = 24 := by
          have := (zo_le (k := 24) (j := q) (by omega) (by omega)).mp z
          omega
        subst q24
        have k := kont v4 l4 sub snd cls
        exact zp_ite (fun ne => k.1 ne) fun e => zp_some (k.2 (Classical.not_not.mp e))
      · have q24 : q < 24 := by
          have : ¬ 24 ≤ q := fun w => z ((zo_le (k := 24) (j := q) (by omega) (by omega)).mpr w)
          omega
        have T : (v4 &&& (cut ^^^ (-1))) &&& zJ_shl 1 (Int32.ofNat q) = 0 ↔ ¬ (bit v4 q ∧ ¬ bit cut q) := by rw [bit_test q24, bit_and q24, bit_not q24]
        rw [zo_1 (by omega)]
        refine zp_ite (fun no => ih (q + 1) v4 (by omega) l4 sub snd fun x hx a b y hy e => ?_) fun yes => ?_
        · by_cases c : x = q
          · subst c
            exact absurd ⟨sub x q24 a, b⟩ (T.mp no)
          · exact cls x (by omega) a b y hy e
        · have yes : bit v4 q ∧ ¬ bit cut q := Classical.byContradiction fun w => yes (T.mpr w)
          refine zp_bind (zp_mono (zp_and (p_behind ht q24 h5 hl nw) (p_behindL (len := len) ht h5 hl)) fun r5 hr => ?_)
          obtain ⟨hr, l5⟩ := hr
          refine ih (q + 1) (v4 ||| r5) (by omega) (l4.or l5) (fun s hs a => (bit_or hs).mpr (Or.inl (sub s hs a))) (fun s hs a => ?_) fun x hx a b y hy e => ?_
          · rcases (bit_or hs).mp a with a | a
            · exact snd s hs a
            · exact (snd q q24 yes.1).nxt yes.2 ((hr s hs).mp a)
          · by_cases c : x = q
            · subst c
              exact (bit_or hy).mpr (Or.inr ((hr y hy).mpr e))
            · exact (bit_or hy).mpr (Or.inl (cls x (by omega) a b y hy e))
  have fin : ∀ v4 : Int32, LOW v4 → (∀ s, s < 24 → bit fr s → bit v4 s) → (∀ s, s < 24 → bit v4 s → CLO (EDG σ len t) (fun s => s < 24 ∧ bit fr s) (fun s => bit cut s) s) → (∀ x, x < 24 → bit v4 x → ¬ bit cut x → ∀ y, y < 24 → EDG σ len t x y → bit v4 y) → LOW v4 ∧ ∀ s, s < 24 → (bit v4 s ↔ CLO (EDG σ len t) (fun s => s < 24 ∧ bit fr s) (fun s => bit cut s) s) := by
    intro v4 l4 sub snd cls
    refine ⟨l4, fun s hs => ⟨snd s hs, fun h => ?_⟩⟩
    exact (h (fun x => x < 24 ∧ bit v4 x) (fun x hx => ⟨hx.1, sub x hx.1 hx.2⟩) fun x y p q e => ⟨by have := e.2.1; omega, cls x p.1 p.2 q y (by have := e.2.1; omega) e⟩).2
  have go6 : ∀ (n r : Nat) (v4 : Int32), r ≤ 24 → r ≤ cnt v4 24 → LOW v4 → (∀ s, s < 24 → bit fr s → bit v4 s) → (∀ s, s < 24 → bit v4 s → CLO (EDG σ len t) (fun s => s < 24 ∧ bit fr s) (fun s => bit cut s) s) → zp (zb_Judge_spread_6 N n σ (Int32.ofNat t) cut v4 (Int32.ofNat r)) (fun r => LOW r ∧ ∀ s, s < 24 → (bit r s ↔ CLO (EDG σ len t) (fun s => s < 24 ∧ bit fr s) (fun s => bit cut s) s)) := by
    intro n
    induction n with
    | zero => intro _ _ _ _ _ _ _; exact zp_none
    | succ n ih =>
      intro r v4 hr hc l4 sub snd
      rw [zb_Judge_spread_6]
      refine zp_ite (fun z => zp_some ?_) fun z => ?_
      · have r24 : r = 24 := by
          have := (zo_le (k := 24) (j := r) (by omega) (by omega)).mp z
          omega
        subst r24
        have all := cnt_full 24 hc
        exact fin v4 l4 sub snd fun _ _ _ _ y hy _ => all y hy
      · have r24 : r < 24 := by
          have : ¬ 24 ≤ r := fun w => z ((zo_le (k := 24) (j := r) (by omega) (by omega)).mpr w)
          omega
        refine in20 (zb_Judge_spread_6 N n) (Int32.ofNat r) v4 _ (fun v4' l' sub' snd' cls' => ⟨fun ne => ?_, fun e => ?_⟩) N 0 v4 (by omega) l4 (fun _ _ h => h) snd (fun x hx => absurd hx (Nat.not_lt_zero _))
        · rw [zo_1 (by omega)]
          have ex : ∃ s, s < 24 ∧ bit v4' s ∧ ¬ bit v4 s := by
            apply Classical.byContradiction
            intro no
            refine ne (l'.ext l4 fun s hs => ⟨fun h => ?_, sub' s hs⟩)
            exact Classical.byContradiction fun w => no ⟨s, hs, h, w⟩
          have lt := cnt_lt 24 sub' ex
          exact ih (r + 1) v4' (by omega) (by omega) l' (fun s hs h => sub' s hs (sub s hs h)) snd'
        · rw [e] at cls' ⊢
          exact fin v4 l4 sub snd cls'
  exact go6 N 0 fr (by omega) (Nat.zero_le _) lf (fun _ _ h => h) (fun s hs h => CLO.frm ⟨hs, h⟩)
