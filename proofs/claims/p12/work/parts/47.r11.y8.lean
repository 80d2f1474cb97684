-- both answer alike
set_option maxRecDepth 2000
def ANS (P : Prop) (r : Int32) : Prop := (r = 0 ∨ r = 1) ∧ (r = 0 ↔ P)
def NEM (σ : zS) (c2 : Nat) (len : Nat → Nat) (a b x : Nat) : Prop :=
  CLO (EDG σ len a) (fun s => s = 0) (fun s => s < len a ∧ σ 92 (24 * a + s) = 11 ∧ σ 93 (24 * a + s) = Int32.ofNat b) x ∧
  (((∃ t s, STT σ c2 len b t s) ∧ (∀ t s, STT σ c2 len b t s → t = a)) → ∃ s, STT σ c2 len b a s ∧ CLO (EDG σ len a) (fun y => EDG σ len a s y) (fun _ => False) x)
theorem zo_24 {c : Nat} (hc : c ≤ 4) : 24 * Int32.ofNat c = Int32.ofNat (24 * c) := by
  apply Int32.toInt_inj.mp
  have k : (24 : Int32).toInt = 24 := rfl
  rw [Int32.toInt_mul, zo_ti (by omega), zo_ti (by omega), k, Int.bmod_def]
  omega
theorem p_isApart {N : Nat} {σ : zS} {c2 : Nat} {len : Nat → Nat} {a b x : Nat} (hc : c2 ≤ 4) (ha : a < c2) (hx : x < len a) (h17 : σ 82 17 = Int32.ofNat c2) (L : ∀ t, t < c2 → len t ≤ 24 ∧ σ 90 t = Int32.ofNat (len t)) (rows : ROWS σ len a) : zp (zf_M_isApart N σ (Int32.ofNat b) (Int32.ofNat a) (Int32.ofNat x)) (fun r => ANS (NEM σ c2 len a b x) r) := by
  have la := (L a ha).1
  have x24 : x < 24 := by omega
  have len24 : ∀ t, t < c2 → len t ≤ 24 := fun t ht => (L t ht).1
  have g24 : ∀ y z, EDG σ len a y z → y < 24 := fun y z e => by have := e.1; omega
  have nn : ∀ {p : Prop}, ¬ ¬ p → p := fun h => Classical.not_not.mp h
  unfold zf_M_isApart
  have go : ∀ (n q : Nat) (v4 v5 v6 v7 : Int32), q ≤ 24 * c2 → SEEN σ c2 len a b x q v4 v5 v6 v7 → zp (zb_M_isApart_15 N n σ (Int32.ofNat b) (Int32.ofNat a) (Int32.ofNat x) v4 v5 v6 v7 (Int32.ofNat q)) (fun r => ANS (NEM σ c2 len a b x) r) := by
    intro n
    induction n with
    | zero => intro _ _ _ _ _ _ _; exact zp_none
    | succ n ih =>
      intro q v4 v5 v6 v7 hq h
      rw [zb_M_isApart_15, h17, zo_24 hc]
      refine zp_ite (fun z => ?_) fun z => ?_
      · have qe : q = 24 * c2 := by
          have := (zo_le (k := 24 * c2) (j := q) (by omega) (by omega)).mp z
          omega
        have full : ∀ t s, STT σ c2 len b t s → 24 * t + s < q := fun t s w => by
          have := len24 t w.1
          have := w.1
          have := w.2.1
          omega
        obtain ⟨s1, s2, s3, s4⟩ := h
        have c7 : zp (zb_M_isApart_186 N σ (Int32.ofNat a) (Int32.ofNat x) v7) (fun r => ANS (CLO (EDG σ len a) (fun s => s = 0) (fun s => s < len a ∧ σ 92 (24 * a + s) = 11 ∧ σ 93 (24 * a + s) = Int32.ofNat b) x) r) := by
          unfold zb_M_isApart_186 zb_M_isApart_201
          refine zp_bind (zp_mono (p_reached (fr := 1) (cut := v7) (by omega) la (L a ha).2 rows) fun r3 h3 => ?_)
          have B := bit_shr (v := r3) x24
          have C : bit r3 x ↔ CLO (EDG σ len a) (fun s => s = 0) (fun s => s < len a ∧ σ 92 (24 * a + s) = 11 ∧ σ 93 (24 * a + s) = Int32.ofNat b) x := by
            rw [h3 x x24]
            refine CLO.cg g24 (fun y => ⟨fun w => (bit_s0 ⟨y, w.1⟩).mp w.2, fun w => ?_⟩) fun y hy => ?_
            · rw [w]; exact ⟨by decide, (bit_s0 ⟨0, by decide⟩).mpr rfl⟩
            · rw [s4 y hy]
              exact ⟨fun w => ⟨w.1, w.2.2⟩, fun w => ⟨w.1, by have := w.1; omega, w.2⟩⟩
          refine zp_ite (fun w => zp_some ⟨Or.inl rfl, fun _ => C.mp ?_, fun _ => rfl⟩) fun w => zp_some ⟨Or.inr rfl, fun e => absurd e (by decide), fun e => absurd (C.mpr e) (B.1.mp (nn w))⟩
          exact Classical.byContradiction fun k => w (B.1.mpr k)
        have fin : (((∃ t s, STT σ c2 len b t s) ∧ (∀ t s, STT σ c2 len b t s → t = a)) → ∃ s, STT σ c2 len b a s ∧ CLO (EDG σ len a) (fun y => EDG σ len a s y) (fun _ => False) x) → zp (zb_M_isApart_186 N σ (Int32.ofNat a) (Int32.ofNat x) v7) (fun r => ANS (NEM σ c2 len a b x) r) := fun w => zp_mono c7 fun r hr => ⟨hr.1, hr.2.trans ⟨fun k => ⟨k, w⟩, fun k => k.1⟩⟩
        refine zp_ite (fun e4 => fin fun w => ?_) fun e4 => zp_ite (fun e5 => fin fun w => ?_) fun e5 => zp_ite (fun e6 => ?_) fun e6 => fin fun w => ?_
        · obtain ⟨⟨t, s, k⟩, _⟩ := w
          exact absurd ⟨t, s, k, full t s k⟩ (s1.mp e4)
        · obtain ⟨t, s, k, _, ne⟩ := s2.mp e5
          exact absurd (w.2 t s k) ne
        · unfold zb_M_isApart_201
          refine zp_some ⟨Or.inr rfl, fun e => absurd e (by decide), fun k => ?_⟩
          obtain ⟨t, s, w, _⟩ := nn fun w => e4 (s1.mpr w)
          obtain ⟨s', w1, w2⟩ := k.2 ⟨⟨t, s, w⟩, fun t s w => Classical.byContradiction fun ne => e5 (s2.mpr ⟨t, s, w, full t s w, ne⟩)⟩
          exact absurd ⟨s', w1, full a s' w1, w2⟩ (s3.mp e6)
        · obtain ⟨s, w1, _, w2⟩ := nn fun w => e6 (s3.mpr w)
          exact ⟨s, w1, w2⟩
      · have ql : q < 24 * c2 := by
          have : ¬ 24 * c2 ≤ q := fun w => z ((zo_le (by omega) (by omega)).mpr w)
          omega
        have q96 : q < 96 := by omega
        have dm := z_dm96 ⟨q, q96⟩
        dsimp only at dm
        have tc : q / 24 < c2 := by omega
        have eq : 24 * (q / 24) + q % 24 = q := by omega
        have l24 := len24 _ tc
        have skp : ∀ v4' v5' v6' v7', SEEN σ c2 len a b x (q + 1) v4' v5' v6' v7' → zp (zb_M_isApart_165 (zb_M_isApart_15 N n) N σ (Int32.ofNat b) (Int32.ofNat a) (Int32.ofNat x) v4' v5' v6' v7' (Int32.ofNat q)) (fun r => ANS (NEM σ c2 len a b x) r) := fun v4' v5' v6' v7' h' => by
          unfold zb_M_isApart_165
          rw [zo_1 (by omega)]
          exact ih (q + 1) v4' v5' v6' v7' (by omega) h'
        rw [dm.1, dm.2, zo_n (m := q / 24) (by omega), (L _ tc).2, zo_n (m := q) (by omega)]
        refine zp_chk fun _ => zp_ite (fun w => skp _ _ _ _ (h.skip len24 ha fun t s a1 a2 a3 => ?_)) fun w => ?_
        · have k := (zo_le (k := len (q / 24)) (j := q % 24) (by omega) (by omega)).mp w
          have l := len24 t a1
          have et : q / 24 = t := by omega
          have es : q % 24 = s := by omega
          rw [et, es] at k
          omega
        · have zl : q % 24 < len (q / 24) := by
            have : ¬ len (q / 24) ≤ q % 24 := fun k => w ((zo_le (by omega) (by omega)).mpr k)
            omega
          refine zp_chk fun _ => zp_ite (fun ne => skp _ _ _ _ (h.skip len24 ha fun t s _ _ _ k => ne k.2)) fun e93 => zp_chk fun _ => ?_
          have e93 := nn e93
          refine zp_ite (fun n10 => ?_) fun k10 => ?_
          · unfold zb_M_isApart_135
            rw [zo_n (m := q) (by omega), dm.2]
            refine zp_chk fun _ => zp_ite (fun n11 => skp _ _ _ _ (h.skip len24 ha fun t s _ _ _ k => k.1.elim n10 fun w => n11 w.1)) fun k11 => zp_ite (fun na => skp _ _ _ _ (h.skip len24 ha fun t s a1 a2 a3 k => k.1.elim n10 fun w => na ?_)) fun ea => ?_
            · have l := len24 t a1
              rw [show q / 24 = a by omega]
            · have ea' : q / 24 = a := zo_inj (by omega) (by omega) (nn ea)
              exact skp _ _ _ _ (h.join len24 ha (z := q % 24) (by rw [← ea']; exact zl) (by rw [← ea']; exact eq) (nn k11) e93)
          · have k10 := nn k10
            have st : ∀ s0 : Int32, (s0 = 0 ↔ (v5 = 0 ∨ q / 24 ≠ a)) → zp (zb_M_isApart_91 (zb_M_isApart_15 N n) N σ (Int32.ofNat b) (Int32.ofNat a) (Int32.ofNat x) 1 v6 v7 (Int32.ofNat q) (Int32.ofNat (q / 24)) s0) (fun r => ANS (NEM σ c2 len a b x) r) := by
              intro s0 h5
              have nx : ∀ v6' : Int32, (v6' = 0 ↔ (v6 = 0 ∧ ¬ (q / 24 = a ∧ CLO (EDG σ len a) (fun y => EDG σ len a (q % 24) y) (fun _ => False) x))) → zp (zb_M_isApart_133 (zb_M_isApart_15 N n) N σ (Int32.ofNat b) (Int32.ofNat a) (Int32.ofNat x) 1 s0 v7 (Int32.ofNat q) (Int32.ofNat (q / 24)) v6') (fun r => ANS (NEM σ c2 len a b x) r) := by
                intro v6' h6
                unfold zb_M_isApart_133 zb_M_isApart_135
                rw [zo_n (m := q) (by omega), k10]
                exact zp_chk fun _ => zp_ite (fun _ => skp _ _ _ _ (h.start len24 ha tc zl eq k10 e93 h5 h6)) fun w => absurd (by decide) w
              unfold zb_M_isApart_91 zb_M_isApart_128 zb_M_isApart_132
              refine zp_ite (fun n6 => nx 1 ⟨fun w => absurd w (by decide), fun w => absurd w.1 n6⟩) fun e6 => zp_ite (fun na => nx 0 ⟨fun _ => ⟨nn e6, fun w => na (by rw [w.1])⟩, fun _ => rfl⟩) fun ea => ?_
              have ea' : q / 24 = a := zo_inj (by omega) (by omega) (nn ea)
              rw [dm.2]
              refine zp_bind (zp_mono (p_behindOf (t := a) (s := q % 24) (by omega) (by rw [← ea']; exact zl) la (L a ha).2 rows) fun r19 h19 => zp_bind (zp_mono (p_reached (fr := r19) (cut := 0) (by omega) la (L a ha).2 rows) fun r20 h20 => ?_))
              have C : bit r20 x ↔ CLO (EDG σ len a) (fun y => EDG σ len a (q % 24) y) (fun _ => False) x := by
                rw [h20 x x24]
                refine CLO.cg g24 (fun y => ⟨fun w => (h19 y w.1).mp w.2, fun w => ?_⟩) fun y hy => ⟨fun w => bit_zero hy w, False.elim⟩
                have y24 : y < 24 := by have := w.2.1; omega
                exact ⟨y24, (h19 y y24).mpr w⟩
              have B := bit_shr (v := r20) x24
              exact zp_ite (fun n1 => nx 0 ⟨fun _ => ⟨nn e6, fun w => n1 (B.2.mpr (C.mpr w.2))⟩, fun _ => rfl⟩) fun y1 => nx 1 ⟨fun w => absurd w (by decide), fun w => absurd ⟨ea', C.mp (B.2.mp (nn y1))⟩ w.2⟩
            unfold zb_M_isApart_90
            exact zp_ite (fun v0 => st 0 ⟨fun _ => Or.inl v0, fun _ => rfl⟩) fun v0 => zp_ite (fun na => st 0 ⟨fun _ => Or.inr fun e => na (by rw [e]), fun _ => rfl⟩) fun ea => st 1 ⟨fun w => absurd w (by decide), fun w => w.elim (fun e => absurd e v0) fun e => absurd (zo_inj (by omega) (by omega) (nn ea)) e⟩
  exact go N 0 0 1 0 0 (Nat.zero_le _) SEEN.zero
def STB (σ : zS) (c2 : Nat) (len : Nat → Nat) (b : Nat) : Prop := LOW (σ 6 b) ∧ ∀ t, t < 24 → (bit (σ 6 b) t ↔ (t < c2 ∧ ∃ s, s < len t ∧ σ 7 (24 * t + s) = 10 ∧ σ 8 (24 * t + s) = Int32.ofNat b))
theorem ROWS.sub {σ : zS} {len : Nat → Nat} {t s : Nat} {k : Int32} {b : Nat} (rows : ROWS σ len t) (hs : s < len t) (hk : k = 10 ∨ k = 11) : (σ 92 (24 * t + s) = k ∧ σ 93 (24 * t + s) = Int32.ofNat b) ↔ (σ 7 (24 * t + s) = k ∧ σ 8 (24 * t + s) = Int32.ofNat b) := by
  obtain ⟨⟨k1, k2, _⟩, _⟩ := rows s hs
  rw [k1]
  have nm : σ 92 (24 * t + s) = k → σ 8 (24 * t + s) = σ 93 (24 * t + s) := fun e => k2 (by
    unfold named
    rcases hk with h | h
    · exact Or.inr (Or.inr (Or.inr (Or.inr (Or.inr (Or.inr (Or.inr (Or.inl (e.trans h))))))))
    · exact Or.inr (Or.inr (Or.inr (Or.inr (Or.inr (Or.inr (Or.inr (Or.inr (e.trans h)))))))))
  constructor
  · rintro ⟨e, f⟩; exact ⟨e, (nm e).trans f⟩
  · rintro ⟨e, f⟩; exact ⟨e, (nm e).symm.trans f⟩
theorem nem_iff {σ : zS} {c2 : Nat} {len : Nat → Nat} {a b x : Nat} (hc : c2 ≤ 4) (ha : a < c2) (ab : a ≠ b) (hx : x < len a) (len24 : ∀ t, t < c2 → len t ≤ 24) (rows : ∀ t, t < c2 → ROWS σ len t) (sb : STB σ c2 len b) : NEM σ c2 len a b x ↔ NEA σ len a b x := by
  have st : ∀ t s, STT σ c2 len b t s ↔ (t < c2 ∧ s < len t ∧ σ 7 (24 * t + s) = 10 ∧ σ 8 (24 * t + s) = Int32.ofNat b) := fun t s => by
    unfold STT
    constructor
    · rintro ⟨w1, w2, w3⟩; exact ⟨w1, w2, ((rows t w1).sub w2 (Or.inl rfl)).mp w3⟩
    · rintro ⟨w1, w2, w3⟩; exact ⟨w1, w2, ((rows t w1).sub w2 (Or.inl rfl)).mpr w3⟩
  have cd : ((∃ t s, STT σ c2 len b t s) ∧ (∀ t s, STT σ c2 len b t s → t = a)) ↔ (a ≠ b ∧ σ 6 b = zJ_shl 1 (Int32.ofNat a)) := by
    constructor
    · rintro ⟨⟨t, s, w⟩, all⟩
      refine ⟨ab, LOW.ext sb.1 (LOW.shl (by omega)) fun t' ht' => ?_⟩
      rw [sb.2 t' ht', bit_shl (by omega) ht']
      constructor
      · rintro ⟨h1, s', h2, h3⟩
        exact all t' s' ((st t' s').mpr ⟨h1, h2, h3⟩)
      · intro e
        have e2 := all t s w
        rw [e2] at w
        rw [e]
        exact ⟨ha, s, ((st a s).mp w).2⟩
    · rintro ⟨_, e⟩
      have B : ∀ t, t < 24 → (bit (σ 6 b) t ↔ t = a) := fun t ht => by rw [e, bit_shl (by omega) ht]
      refine ⟨?_, fun t s w => ?_⟩
      · obtain ⟨_, s, h2⟩ := (sb.2 a (by omega)).mp ((B a (by omega)).mpr rfl)
        exact ⟨a, s, (st a s).mpr ⟨ha, h2⟩⟩
      · obtain ⟨h1, h2, h3⟩ := (st t s).mp w
        exact (B t (by omega)).mp ((sb.2 t (by omega)).mpr ⟨h1, s, h2, h3⟩)
  have l24 := len24 a ha
  have g24 : ∀ y z, EDG σ len a y z → y < 24 := fun y z e => by have := e.1; omega
  have un : (∃ s, STT σ c2 len b a s ∧ CLO (EDG σ len a) (fun y => EDG σ len a s y) (fun _ => False) x) ↔ CLO (EDG σ len a) (fun s => ∃ x, x < len a ∧ (σ 7 (24 * a + x) = 10 ∧ σ 8 (24 * a + x) = Int32.ofNat b) ∧ EDG σ len a x s) (fun _ => False) x := by
    constructor
    · rintro ⟨s, w, k⟩ S f g
      have w' := (st a s).mp w
      exact k S (fun y e => f y ⟨s, w'.2.1, w'.2.2, e⟩) g
    · intro k
      exact k (fun y => ∃ s, STT σ c2 len b a s ∧ CLO (EDG σ len a) (fun z => EDG σ len a s z) (fun _ => False) y) (fun y ⟨s, w1, w2, e⟩ => ⟨s, (st a s).mpr ⟨ha, w1, w2⟩, CLO.frm e⟩) fun y z ⟨s, w, k⟩ n e => ⟨s, w, k.nxt n e⟩
  have cu : CLO (EDG σ len a) (fun s => s = 0) (fun s => s < len a ∧ σ 92 (24 * a + s) = 11 ∧ σ 93 (24 * a + s) = Int32.ofNat b) x ↔ CLO (EDG σ len a) (fun s => s = 0 ∧ 0 < len a) (fun s => s < len a ∧ σ 7 (24 * a + s) = 11 ∧ σ 8 (24 * a + s) = Int32.ofNat b) x := by
    refine CLO.cg g24 (fun y => ⟨fun w => ⟨w, by omega⟩, fun w => w.1⟩) fun y _ => ?_
    constructor
    · rintro ⟨w1, w2⟩; exact ⟨w1, ((rows a ha).sub w1 (Or.inr rfl)).mp w2⟩
    · rintro ⟨w1, w2⟩; exact ⟨w1, ((rows a ha).sub w1 (Or.inr rfl)).mpr w2⟩
  unfold NEM NEA
  rw [cu, cd, un]
