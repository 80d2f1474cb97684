-- both answer alike
set_option maxRecDepth 2000
theorem PRG.of {ρ μ r ν : zS} (h : PRG ρ μ) (e4 : ∀ i, i < 5 → r 4 i = ρ 4 i) (e5 : r 5 = ρ 5) (m82 : ∀ i, i = 15 ∨ i = 16 ∨ i = 17 ∨ i = 25 → ν 82 i = μ 82 i) (m90 : ν 90 = μ 90) : PRG r ν := by
  obtain ⟨c, len, h1, h2, h3, h4, h5, h6⟩ := h
  refine ⟨c, len, h1, fun s hs => ⟨by rw [e4 s (by omega)]; exact (h2 s hs).1, by rw [m82 (15 + s) (by omega)]; exact (h2 s hs).2⟩, by rw [e5, m90]; exact h3, by rw [e5]; exact h4, by rw [e4 4 (by decide)]; exact h5, by rw [e4 3 (by decide), m82 25 (by decide)]; exact h6⟩
def LO (ρ μ : zS) : Prop := (ρ 2 13 = 0 ∧ μ 82 21 = 0) ∨ (ρ 2 13 = 1 ∧ μ 82 21 = 1 ∧ PRG ρ μ)
theorem p_X_clear {N : Nat} {σ : zS} : zp (zf_Program_clear N σ) (fun r => (∀ q, q ≠ 4 → q ≠ 5 → q ≠ 6 → r q = σ q) ∧ (∀ i, i < 7 → r 4 i = 0) ∧ (∀ i, i < 4 → r 5 i = 0)) := by
  have f5 : ∀ (n i : Nat) (r σ' : zS), i ≤ 4 → (∀ q, q ≠ 5 → r q = σ' q) → (∀ j, j < i → r 5 j = 0) → zp (zb_Arrays_fill_5 N n r 0 (Int32.ofNat i) 4) (fun r => (∀ q, q ≠ 5 → r q = σ' q) ∧ (∀ i, i < 4 → r 5 i = 0)) := by
    intro n
    induction n with
    | zero => intro _ _ _ _ _ _; exact zp_none
    | succ n ih =>
      intro i r σ' hi h1 h2
      rw [zb_Arrays_fill_5]
      refine zp_ite (fun q => zp_some ⟨h1, fun j hj => h2 j ?_⟩) fun q => zp_chk fun _ => ?_
      · have := (zo_le (k := 4) (j := i) (by omega) (by omega)).mp q
        omega
      · have lt : i < 4 := by
          have : ¬ 4 ≤ i := fun x => q ((zo_le (k := 4) (j := i) (by omega) (by omega)).mpr x)
          omega
        rw [zo_n (by omega), zo_1 (by omega)]
        refine ih (i + 1) _ σ' (by omega) (fun q hq => by rw [zu_other hq]; exact h1 q hq) (fun j hj => ?_)
        rw [zx_up_same]
        by_cases e : j = i
        · rw [e, zu_eq]
        · rw [zu_ne e]; exact h2 j (by omega)
  have f6 : ∀ (n : Nat) (r σ' : zS) (v : Int32), (∀ q, q ≠ 6 → r q = σ' q) → zp (zb_Arrays_fill_c1_5 N n r 0 v 4) (fun r => ∀ q, q ≠ 6 → r q = σ' q) := by
    intro n
    induction n with
    | zero => intro _ _ _ _; exact zp_none
    | succ n ih =>
      intro r σ' v h
      rw [zb_Arrays_fill_c1_5]
      exact zp_ite (fun _ => zp_some h) fun _ => zp_chk fun _ => ih _ σ' _ fun q hq => by rw [zu_other hq]; exact h q hq
  unfold zf_Program_clear zf_Arrays_fill zf_Arrays_fill_c1
  generalize hS : (zx_up (zx_up (zx_up (zx_up (zx_up (zx_up (zx_up σ 4 0 0) 4 1 0) 4 2 0) 4 3 0) 4 4 0) 4 5 0) 4 6 0) = S
  have Sq : ∀ q, q ≠ 4 → S q = σ q := fun q hq => by rw [← hS]; iterate 7 rw [zu_other hq]
  have S4 : ∀ i, i < 7 → S 4 i = 0 := fun i hi => by
    rw [← hS]
    match i, hi with
    | 0, _ => simp [zx_up]
    | 1, _ => simp [zx_up]
    | 2, _ => simp [zx_up]
    | 3, _ => simp [zx_up]
    | 4, _ => simp [zx_up]
    | 5, _ => simp [zx_up]
    | 6, _ => simp [zx_up]
  clear hS
  refine zp_bind (zp_mono (f5 N 0 S S (by omega) (fun _ _ => rfl) (fun j hj => absurd hj (Nat.not_lt_zero _))) ?_)
  rintro r1 ⟨a1, a2⟩
  refine zp_bind (zp_mono (f6 N r1 r1 0 fun _ _ => rfl) fun r2 b => zp_some ⟨fun q x y z => ?_, fun i hi => ?_, fun i hi => ?_⟩)
  · rw [b q z, a1 q y, Sq q x]
  · rw [b 4 (by decide), a1 4 (by decide), S4 i hi]
  · rw [b 5 (by decide), a2 i hi]
theorem p_readText {N : Nat} {σ : zS} {τ : zT} (rs : RS τ) (tp : 0 ≤ σ 82 2 ∧ σ 82 2 ≤ 1500) (eq : σ 2 11 = σ 82 2) (te : σ 3 = σ 83) (br : ∀ i, -128 ≤ σ 83 i ∧ σ 83 i ≤ 127) : zp (zf_Reader_readText N σ τ (σ 2 11)) (fun r => ∀ μ, (∀ q, 82 ≤ q → μ q = σ q) → zp (zf_M_read N μ) (fun s => FIN r s)) := by
  unfold zf_Reader_readText zf_Names_clear zf_Weaver_beginThread
  refine zp_bind (zp_mono p_X_clear ?_)
  rintro r1 ⟨c1, c2, c3⟩
  refine zp_bind (zp_some (zp_bind (zp_some ?_)))
  generalize hS : (zx_up (zx_up (zx_up (zx_up (zx_up (zx_up (zx_up (zx_up (zx_up r1 18 3 0) 18 5 0) 29 8 0) 29 6 0) 29 7 (-1)) 29 9 0) 29 10 0) 29 11 0) 29 12 (-1)) = S
  have Sq : ∀ q, q ≠ 18 → q ≠ 29 → S q = r1 q := fun q a b => by
    rw [← hS]
    iterate 7 rw [zu_other b]
    rw [zu_other a, zu_other a]
  have S183 : S 18 3 = 0 := by rw [← hS]; simp [zx_up]
  have S296 : S 29 6 = 0 := by rw [← hS]; simp [zx_up]
  clear hS
  rw [eq]
  refine zp_bind (zp_mono (p_X_scan rs tp) ?_)
  rintro r4 ⟨s1, s2, s3, E, m, xc⟩
  intro r er μ hm
  have S3 : S 3 = σ 83 := by rw [Sq 3 (by decide) (by decide), c1 3 (by decide) (by decide) (by decide), zu_other (by decide), zu_other (by decide)]; exact te
  have go20 : ∀ (n i : Nat) (ν : zS), Int32.ofNat i ≤ σ 82 2 → i ≤ 1500 → (∀ q, q ≠ 84 → q ≠ 82 → ν q = μ q) → ν 82 4 = σ 82 2 → (∀ j, j < i → ν 84 j = σ 83 j) → zp (zb_M_read_20 N n ν (Int32.ofNat i)) (fun s => FIN r s) := by
    intro n
    induction n with
    | zero => intro _ _ _ _ _ _ _; exact zp_none
    | succ n ih =>
      intro i ν hi i15 f4 e4 cp
      rw [zb_M_read_20, e4]
      refine zp_ite (fun q => ?_) fun q => zp_chk fun ck => zp_chk fun _ => ?_
      ·
        have ei : Int32.ofNat i = σ 82 2 := Int32.le_antisymm hi q
        generalize hV : (zx_up (zx_up (zx_up (zx_up (zx_up (zx_up (zx_up (zx_up (zx_up (zx_up (zx_up ν 82 9 0) 82 10 0) 82 15 0) 82 16 0) 82 17 0) 82 25 0) 82 19 0) 82 5 0) 82 6 0) 82 53 0) 82 62 (-1)) = V
        have Vq : ∀ q, q ≠ 82 → V q = ν q := fun q hq => by rw [← hV]; iterate 11 rw [zu_other hq]
        have V4 : V 82 4 = σ 82 2 := by rw [← hV]; simp [zx_up]; exact e4
        have V0 : ∀ i, i = 5 ∨ i = 6 ∨ i = 9 ∨ i = 15 ∨ i = 16 ∨ i = 17 ∨ i = 19 ∨ i = 25 → V 82 i = 0 := fun i hi => by
          rw [← hV]
          rcases hi with h | h | h | h | h | h | h | h <;> subst h <;> simp [zx_up]
        clear hV
        have nat : ∀ x : Int32, 0 ≤ x → x < σ 82 2 → x.toNatClampNeg < i := by
          intro x h0 hx
          rw [← ei] at hx
          have a := z_nat h0
          have b := zo_ti (m := i) (by omega)
          have c := Int32.lt_iff_toInt_lt.mp hx
          omega
        have tbx := xc.tb (b' := V 84) tp.2 (by
          intro x h0 hx
          rw [S3, Vq 84 (by decide), cp _ (nat x h0 hx)])
        obtain ⟨tb, xat⟩ := tbx
        rw [← V4] at tb
        have brV : BR V := by
          intro x h0 hx
          rw [V4] at hx
          rw [Vq 84 (by decide), cp _ (nat x h0 hx)]
          exact br _
        refine zp_bind (zp_mono (p_M_at tb (a := 0) tb.2.2.2.1 (by rw [V0 5 (by decide), V0 6 (by decide), tb.2.2.1]; decide)) ?_)
        rintro ν2 ⟨mat, f2⟩
        have e84 := f2.1 84 (by decide)
        have e24 := f2.2 4 (by decide) (by decide) (by decide) (by decide)
        have z0 : ∀ i, i = 9 ∨ i = 15 ∨ i = 16 ∨ i = 17 ∨ i = 19 ∨ i = 25 → ν2 82 i = 0 := fun i hi => by rw [f2.2 i (by omega) (by omega) (by omega) (by omega)]; exact V0 i (by omega)
        have q17 : r4.1 17 6 = 0 := by rw [s1 17 (by decide) (by decide) (by decide), Sq 17 (by decide) (by decide), c1 17 (by decide) (by decide) (by decide), zx_up_same, zu_ne (by decide), zx_up_same, zu_eq]
        have q4 : ∀ i, i < 7 → r4.1 4 i = 0 := fun i hi => by rw [s1 4 (by decide) (by decide) (by decide), Sq 4 (by decide) (by decide)]; exact c2 i hi
        refine (p_loop (T := (r4.1 26, r4.1 27, r4.2 28, E, m)) (N := N) (N' := N) N r4.1 r4.2 0 0 (Nat.le_refl _)).1 (fun _ => 0) (fun _ _ => 0) (fun _ => 0) ν2 N rfl ⟨⟨xat, q17⟩, ⟨by rw [e84, e24]; exact tb, by unfold BR; rw [e84, e24]; exact brV, mat, z0 9 (by decide)⟩, ?_, ?_, ?_, ?_⟩ r er
        · refine ⟨fun s hs => ⟨Nat.zero_le _, q4 s (by omega)⟩, ?_, fun i hi => absurd hi (Nat.not_lt_zero _), fun s k _ hk => absurd hk (Nat.not_lt_zero _), fun i j hi => absurd hi (Nat.not_lt_zero _)⟩
          rw [s1 18 (by decide) (by decide) (by decide)]; exact S183
        · exact fun s hs => ⟨Nat.zero_le _, z0 (15 + s) (by omega), fun k hk => absurd hk (Nat.not_lt_zero _)⟩
        · refine ⟨fun t ht => absurd ht (Nat.not_lt_zero _), fun t _ h4 => ?_, q4 4 (by decide), ⟨by rw [q4 3 (by decide), z0 25 (by decide)], by rw [q4 3 (by decide)]; decide⟩, ⟨by omega, ?_⟩, fun h => absurd h (Nat.lt_irrefl _), fun t s ht => absurd ht (Nat.not_lt_zero _)⟩
          · rw [s1 5 (by decide) (by decide) (by decide), Sq 5 (by decide) (by decide)]; exact c3 t h4
          · rw [s1 29 (by decide) (by decide) (by decide)]; exact S296
        · exact ⟨0, fun _ => 0, fun _ => 0, by omega, z0 19 (by decide), fun l hl => absurd hl (Nat.not_lt_zero _), fun l l' _ hl' => absurd hl' (Nat.not_lt_zero _), fun q hq => absurd hq.1.choose_spec.choose_spec.1 (Nat.not_lt_zero _)⟩
      · have lt := Int32.not_le.mp q
        have i14 : i < 1500 := (zo_lt (k := i) (j := 1500) (by omega) (by omega)).mp ck.2
        rw [zo_n (by omega), zo_1 (by omega)]
        have e83 : ν 83 = σ 83 := by rw [f4 83 (by decide) (by decide), hm 83 (by decide)]
        refine ih (i + 1) _ ?_ (by omega) (fun q a b => by rw [zu_other a]; exact f4 q a b) (by rw [zu_other (by decide)]; exact e4) (fun j hj => ?_)
        · rw [← zo_1 (by omega)]
          have a := Int32.lt_iff_toInt_lt.mp lt
          have b := zo_ti (m := i) (by omega)
          rw [zo_1 (by omega)]
          exact Int32.le_iff_toInt_le.mpr (by rw [zo_ti (by omega)]; omega)
        · rw [zx_up_same]
          by_cases e : j = i
          · rw [e, zu_eq, e83, zk_byte (br i).1 (br i).2]
          · rw [zu_ne e]; exact cp j (by omega)
  unfold zf_M_read
  have e2 : μ 82 2 = σ 82 2 := by rw [hm 82 (by decide)]
  refine go20 N 0 _ tp.1 (by omega) (fun q a b => ?_) ?_ (fun j hj => absurd hj (Nat.not_lt_zero _))
  · rw [zu_other b, zu_other b, zu_other b]
  · rw [zx_up_same, zu_ne (by decide), zx_up_same, zu_eq]; exact e2
theorem p_read {N : Nat} {σ : zS} {τ : zT} (rs : RS τ) (tp : 0 ≤ σ 82 2 ∧ σ 82 2 ≤ 1500) (eq : σ 2 11 = σ 82 2) (te : σ 3 = σ 83) (br : ∀ i, -128 ≤ σ 83 i ∧ σ 83 i ≤ 127) : zp (zf_X_read N σ τ) (fun r => ∀ μ, (∀ q, 82 ≤ q → μ q = σ q) → zp (zf_M_read N μ) (fun s => r.1 = s.1 ∧ LO r.2.1 s.2)) := by
  unfold zf_X_read
  refine zp_bind (zp_mono (p_readText rs tp eq te br) fun r1 h1 => ?_)
  have f40 : ∀ s0 : Int32, zp (zb_X_read_40 N (zx_up (zx_up r1.1 2 11 0) 2 12 (r1.1 17 6)) r1.2 s0) (fun r => r.2.1 2 13 = s0 ∧ (∀ q, q ≠ 2 → q ≠ 75 → q ≠ 76 → r.2.1 q = r1.1 q) ∧ ((s0 = 0 ∧ r.1 = -1000 - r1.1 17 7) ∨ (s0 ≠ 0 ∧ r.1 = r1.1 4 4))) := by
    intro s0
    unfold zb_X_read_40 zf_Judge_forget zf_Arrays_fill_c2
    refine zp_chk fun _ => zp_bind (zp_some ?_)
    have fl : ∀ (n : Nat) (r σ' : zS) (v : Int32), (∀ q, q ≠ 75 → r q = σ' q) → zp (zb_Arrays_fill_c2_5 N n r (-1) v 6) (fun r => ∀ q, q ≠ 75 → r q = σ' q) := by
      intro n
      induction n with
      | zero => intro _ _ _ _; exact zp_none
      | succ n ih =>
        intro r σ' v h
        rw [zb_Arrays_fill_c2_5]
        exact zp_ite (fun _ => zp_some h) fun _ => zp_chk fun _ => ih _ σ' _ fun q hq => by rw [zu_other hq]; exact h q hq
    refine zp_bind (zp_mono (fl N _ _ 0 fun _ _ => rfl) fun r5 h5 => ?_)
    have e13 : r5 2 13 = s0 := by rw [h5 2 (by decide)]; simp [zx_up]
    have eq' : ∀ q, q ≠ 2 → q ≠ 75 → q ≠ 76 → r5 q = r1.1 q := fun q a b c => by
      rw [h5 q b, zu_other c]
      iterate 6 rw [zu_other a]
    refine zp_ite (fun z => zp_some ⟨e13, eq', Or.inl ⟨e13.symm.trans z, ?_⟩⟩) fun z => zp_some ⟨e13, eq', Or.inr ⟨fun x => z (e13.trans x), ?_⟩⟩
    · dsimp only; rw [eq' 17 (by decide) (by decide) (by decide)]
    · dsimp only; rw [eq' 4 (by decide) (by decide) (by decide)]
  refine zp_ite (fun z => zp_mono (f40 0) fun r hr μ hm => zp_mono (h1 μ hm) fun s hs => ?_) fun z => zp_mono (f40 1) fun r hr μ hm => zp_mono (h1 μ hm) fun s hs => ?_
  · obtain ⟨r13, rq, rr⟩ := hr
    rcases hs with ⟨p, x, e, e21⟩ | ⟨h17, _⟩
    · rcases rr with ⟨_, rr⟩ | ⟨q, _⟩
      · exact ⟨by rw [rr, e, x.2], Or.inl ⟨r13, e21⟩⟩
      · exact absurd rfl q
    · exact absurd h17 z
  · obtain ⟨r13, rq, rr⟩ := hr
    rcases hs with ⟨p, x, e, e21⟩ | ⟨h17, e, e21, pr⟩
    · exact absurd (Classical.not_not.mp z) x.1
    · rcases rr with ⟨q, _⟩ | ⟨_, rr⟩
      · exact absurd q (by decide)
      · exact ⟨by rw [rr, e], Or.inr ⟨r13, e21, pr.of (fun i _ => by rw [rq 4 (by decide) (by decide) (by decide)]) (rq 5 (by decide) (by decide) (by decide)) (fun _ _ => rfl) rfl⟩⟩
theorem z_b8 (x : Int32) : zJ_byte (zJ_byte x) = zJ_byte x := by
  unfold zJ_byte
  rw [Int8.toInt8_toInt32]
theorem z_sh (v : Int32) (s : Int32) (hs : s = 24 ∨ s = 16 ∨ s = 8 ∨ s = 0) : zJ_byte (zJ_ushr v s) = zJ_byte (zJ_shr v s) := by
  have key : ∀ n : Nat, n ≤ 24 → ((v.toBitVec >>> n).setWidth 8) = ((v.toBitVec.sshiftRight n).setWidth 8) := by
    intro n hn
    apply BitVec.eq_of_getLsbD_eq
    intro i hi
    rw [BitVec.getLsbD_setWidth, BitVec.getLsbD_setWidth, BitVec.getLsbD_ushiftRight, BitVec.getLsbD_sshiftRight]
    have a : ¬ 32 ≤ i := by omega
    have b : n + i < 32 := by omega
    simp [a, b]
  have U : (zJ_ushr v s).toBitVec = v.toBitVec >>> s.toNatClampNeg := by
    unfold zJ_ushr
    show (v.toUInt32 >>> (s.toUInt32 &&& Int32.toUInt32 31)).toBitVec = _
    rw [UInt32.toBitVec_shiftRight]
    rcases hs with h | h | h | h <;> subst h <;> rfl
  have S : (zJ_shr v s).toBitVec = v.toBitVec.sshiftRight s.toNatClampNeg := by
    unfold zJ_shr
    rw [Int32.toBitVec_shiftRight]
    rcases hs with h | h | h | h <;> subst h <;> rfl
  unfold zJ_byte
  congr 1
  apply Int8.toBitVec_inj.mp
  rw [Int32.toBitVec_toInt8, Int32.toBitVec_toInt8, U, S, BitVec.signExtend_eq_setWidth_of_le _ (by decide), BitVec.signExtend_eq_setWidth_of_le _ (by decide)]
  refine key _ ?_
  rcases hs with h | h | h | h <;> subst h <;> decide
def shk (k : Nat) : Int32 := if k = 0 then 24 else if k = 1 then 16 else if k = 2 then 8 else if k = 3 then 0 else -8
def ybt (v : Int32) (k : Nat) : Int32 := zJ_byte (zJ_shr v (shk k))
def tape (o r : Nat → Int32) (t n : Nat) (f : Nat → Int32) : Prop := ∀ j, r j = if t ≤ j ∧ j < t + n then f (j - t) else o j
theorem tape.put {o r : Nat → Int32} {t k : Nat} {f : Nat → Int32} {x : Int32} (h : tape o r t k f) (e : x = f k) : tape o (zu r (t + k) x) t (k + 1) f := by
  intro j
  by_cases q : j = t + k
  · rw [q, zu_eq, if_pos ⟨by omega, by omega⟩, e, show t + k - t = k by omega]
  · rw [zu_ne q, h j]
    by_cases c : t ≤ j ∧ j < t + k
    · rw [if_pos c, if_pos ⟨c.1, by omega⟩]
    · rw [if_neg c, if_neg (by omega)]
theorem p_X_putBytes {N t : Nat} {σ : zS} {v : Int32} (h : σ 2 11 = Int32.ofNat t) (ht : t + 4 ≤ 1500) : zp (zf_X_putBytes N σ v) (fun r => (∀ q, q ≠ 2 → q ≠ 3 → r q = σ q) ∧ (∀ i, i ≠ 11 → r 2 i = σ 2 i) ∧ r 2 11 = Int32.ofNat (t + 4) ∧ tape (σ 3) (r 3) t 4 (ybt v)) := by
  unfold zf_X_putBytes
  have go : ∀ (n k : Nat) (r : zS), k ≤ 4 → (∀ q, q ≠ 2 → q ≠ 3 → r q = σ q) → (∀ i, i ≠ 11 → r 2 i = σ 2 i) → r 2 11 = Int32.ofNat (t + k) → tape (σ 3) (r 3) t k (ybt v) → zp (zb_X_putBytes_3 N n r v (shk k)) (fun r => (∀ q, q ≠ 2 → q ≠ 3 → r q = σ q) ∧ (∀ i, i ≠ 11 → r 2 i = σ 2 i) ∧ r 2 11 = Int32.ofNat (t + 4) ∧ tape (σ 3) (r 3) t 4 (ybt v)) := by
    intro n
    induction n with
    | zero => intro _ _ _ _ _ _ _; exact zp_none
    | succ n ih =>
      intro k r hk h1 h2 h3 h4
      rw [zb_X_putBytes_3, h3]
      have s4 : k = 4 ∨ (k < 4 ∧ ¬ shk k < 0 ∧ shk k + (-8) = shk (k + 1) ∧ (shk k = 24 ∨ shk k = 16 ∨ shk k = 8 ∨ shk k = 0)) := by
        match k, hk with
        | 0, _ => exact Or.inr (by decide)
        | 1, _ => exact Or.inr (by decide)
        | 2, _ => exact Or.inr (by decide)
        | 3, _ => exact Or.inr (by decide)
        | 4, _ => exact Or.inl rfl
      rcases s4 with e | ⟨k4, ng, st, sv⟩
      · subst e
        exact zp_ite (fun _ => zp_some ⟨h1, h2, h3, h4⟩) fun q => absurd (by decide) q
      · refine zp_ite (fun q => absurd q ng) fun _ => zp_ite (fun q => ?_) fun _ => zp_chk fun _ => ?_
        · have := (zo_le (k := 1500) (j := t + k) (by omega) (by omega)).mp q
          omega
        · rw [zo_n (by omega), zo_1 (by omega), st]
          refine ih (k + 1) _ (by omega) (fun q a b => by rw [zu_other a, zu_other b]; exact h1 q a b) (fun i hi => by rw [zx_up_same, zu_ne hi, zu_other (by decide)]; exact h2 i hi) (by rw [zx_up_same, zu_eq]; rfl) ?_
          rw [zu_other (by decide), zx_up_same]
          exact h4.put (by rw [z_b8, z_sh v _ sv]; rfl)
  exact go N 0 σ (by omega) (fun _ _ _ => rfl) (fun _ _ => rfl) h (fun j => by rw [if_neg (by omega)])
def wrd (x1 x2 x3 x4 x5 : Int32) (i : Nat) : Int32 := if i < 4 then x1 else if i < 8 then x2 else if i < 12 then x3 else if i < 16 then x4 else x5
def fed (x1 x2 x3 x4 x5 : Int32) (i : Nat) : Int32 := ybt (wrd x1 x2 x3 x4 x5 i) (i % 4)
theorem tape.cat {o m r : Nat → Int32} {t n k : Nat} {f g F : Nat → Int32} (h : tape o m t n f) (h2 : tape m r (t + n) k g) (e1 : ∀ i, i < n → F i = f i) (e2 : ∀ i, i < k → F (n + i) = g i) : tape o r t (n + k) F := by
  intro j
  rw [h2 j]
  by_cases c : t + n ≤ j ∧ j < t + n + k
  · rw [if_pos c, if_pos ⟨by omega, by omega⟩, ← e2 _ (by omega), show n + (j - (t + n)) = j - t by omega]
  · rw [if_neg c, h j]
    by_cases d : t ≤ j ∧ j < t + n
    · rw [if_pos d, if_pos ⟨d.1, by omega⟩, e1 _ (by omega)]
    · rw [if_neg d, if_neg (by omega)]
theorem p_X_feed {N t : Nat} {σ : zS} {x1 x2 x3 x4 x5 : Int32} (h : σ 2 11 = Int32.ofNat t) (ht : t + 20 ≤ 1500) : zp (zf_X_feed N σ x1 x2 x3 x4 x5) (fun r => (∀ q, q ≠ 2 → q ≠ 3 → r.2 q = σ q) ∧ (∀ i, i ≠ 11 → r.2 2 i = σ 2 i) ∧ tape (σ 3) (r.2 3) t 20 (fed x1 x2 x3 x4 x5)) := by
  unfold zf_X_feed zb_X_feed_20
  refine zp_ite (fun _ => zp_none) fun _ => zp_ite (fun _ => ?_) fun _ => zp_none
  refine zp_bind (zp_mono (p_X_putBytes h (by omega)) ?_)
  rintro r1 ⟨a1, a2, a3, a4⟩
  refine zp_bind (zp_mono (p_X_putBytes a3 (by omega)) ?_)
  rintro r2 ⟨b1, b2, b3, b4⟩
  refine zp_bind (zp_mono (p_X_putBytes b3 (by omega)) ?_)
  rintro r3 ⟨c1, c2, c3, c4⟩
  refine zp_bind (zp_mono (p_X_putBytes c3 (by omega)) ?_)
  rintro r4 ⟨d1, d2, d3, d4⟩
  refine zp_bind (zp_mono (p_X_putBytes d3 (by omega)) ?_)
  rintro r5 ⟨e1, e2, e3, e4⟩
  refine zp_some ⟨fun q x y => by dsimp only; rw [e1 q x y, d1 q x y, c1 q x y, b1 q x y, a1 q x y], fun i hi => by dsimp only; rw [e2 i hi, d2 i hi, c2 i hi, b2 i hi, a2 i hi], ?_⟩
  have m0 : ∀ i, i < 4 → fed x1 x2 x3 x4 x5 i = ybt x1 i := fun i hi => by unfold fed wrd; rw [if_pos hi, Nat.mod_eq_of_lt hi]
  have m1 : ∀ i, i < 4 → fed x1 x2 x3 x4 x5 (4 + i) = ybt x2 i := fun i hi => by unfold fed wrd; rw [if_neg (by omega), if_pos (by omega), show (4 + i) % 4 = i by omega]
  have m2 : ∀ i, i < 4 → fed x1 x2 x3 x4 x5 (8 + i) = ybt x3 i := fun i hi => by unfold fed wrd; rw [if_neg (by omega), if_neg (by omega), if_pos (by omega), show (8 + i) % 4 = i by omega]
  have m3 : ∀ i, i < 4 → fed x1 x2 x3 x4 x5 (12 + i) = ybt x4 i := fun i hi => by unfold fed wrd; rw [if_neg (by omega), if_neg (by omega), if_neg (by omega), if_pos (by omega), show (12 + i) % 4 = i by omega]
  have m4 : ∀ i, i < 4 → fed x1 x2 x3 x4 x5 (16 + i) = ybt x5 i := fun i hi => by unfold fed wrd; rw [if_neg (by omega), if_neg (by omega), if_neg (by omega), if_neg (by omega), show (16 + i) % 4 = i by omega]
  have t8 := a4.cat (F := fed x1 x2 x3 x4 x5) b4 m0 m1
  have t12 := t8.cat (F := fed x1 x2 x3 x4 x5) c4 (fun _ _ => rfl) m2
  have t16 := t12.cat (F := fed x1 x2 x3 x4 x5) d4 (fun _ _ => rfl) m3
  exact t16.cat (F := fed x1 x2 x3 x4 x5) e4 (fun _ _ => rfl) m4
theorem z_f20 : ∀ i : Fin 20, 24 - 8 * zJ_rem (Int32.ofNat i.val) 4 = shk (i.val % 4) := by decide +kernel
theorem p_M_feed {N t : Nat} {σ : zS} {x1 x2 x3 x4 x5 : Int32} (h : σ 82 2 = Int32.ofNat t) (ht : t ≤ 1500) : zp (zf_M_feed N σ x1 x2 x3 x4 x5) (fun r => (∀ q, q ≠ 82 → q ≠ 83 → r.2 q = σ q) ∧ (∀ i, i ≠ 0 → i ≠ 2 → r.2 82 i = σ 82 i) ∧ ((t + 20 ≤ 1500 ∧ tape (σ 83) (r.2 83) t 20 (fed x1 x2 x3 x4 x5)) ∨ (¬ t + 20 ≤ 1500 ∧ r.2 83 = σ 83))) := by
  have e20 : σ 82 2 + 20 = Int32.ofNat (t + 20) := zo_plus (j := 20) h (by omega)
  unfold zf_M_feed zb_M_feed_19
  rw [e20]
  refine zp_ite (fun q => zp_ite (fun _ => ?_) fun q => absurd (by decide) q) fun q => zp_ite (fun q => absurd q (by decide)) fun _ => zp_some ⟨fun q a _ => ?_, fun i a _ => ?_, Or.inr ⟨fun x => q ((zo_le (k := t + 20) (j := 1500) (by omega) (by omega)).mpr x), ?_⟩⟩
  · have t20 : t + 20 ≤ 1500 := (zo_le (k := t + 20) (j := 1500) (by omega) (by omega)).mp q
    have go : ∀ (n i : Nat) (r : zS), i ≤ 20 → (∀ q, q ≠ 82 → q ≠ 83 → r q = σ q) → (∀ j, j ≠ 0 → j ≠ 2 → r 82 j = σ 82 j) → r 82 2 = Int32.ofNat (t + i) → tape (σ 83) (r 83) t i (fed x1 x2 x3 x4 x5) → zp (zb_M_feed_34 N n r x1 x2 x3 x4 x5 (Int32.ofNat i)) (fun r => (∀ q, q ≠ 82 → q ≠ 83 → r.2 q = σ q) ∧ (∀ i, i ≠ 0 → i ≠ 2 → r.2 82 i = σ 82 i) ∧ ((t + 20 ≤ 1500 ∧ tape (σ 83) (r.2 83) t 20 (fed x1 x2 x3 x4 x5)) ∨ (¬ t + 20 ≤ 1500 ∧ r.2 83 = σ 83))) := by
      intro n
      induction n with
      | zero => intro _ _ _ _ _ _ _; exact zp_none
      | succ n ih =>
        intro i r hi h1 h2 h3 h4
        rw [zb_M_feed_34]
        by_cases e : i = 20
        · subst e
          exact zp_ite (fun _ => zp_some ⟨h1, h2, Or.inl ⟨t20, h4⟩⟩) fun q => absurd (by decide) q
        · have lt : i < 20 := by omega
          have C : ∀ w, w = wrd x1 x2 x3 x4 x5 i → zp (zb_M_feed_87 (zb_M_feed_34 N n) N r x1 x2 x3 x4 x5 (Int32.ofNat i) w) (fun r => (∀ q, q ≠ 82 → q ≠ 83 → r.2 q = σ q) ∧ (∀ i, i ≠ 0 → i ≠ 2 → r.2 82 i = σ 82 i) ∧ ((t + 20 ≤ 1500 ∧ tape (σ 83) (r.2 83) t 20 (fed x1 x2 x3 x4 x5)) ∨ (¬ t + 20 ≤ 1500 ∧ r.2 83 = σ 83))) := by
            intro w hw
            unfold zb_M_feed_87
            rw [h3, zo_n (by omega), zo_1 (by omega), zo_1 (by omega), z_f20 ⟨i, lt⟩]
            refine zp_chk fun _ => ih (i + 1) _ (by omega) (fun q a b => by rw [zu_other a, zu_other b]; exact h1 q a b) (fun j a b => by rw [zx_up_same, zu_ne b, zu_other (by decide)]; exact h2 j a b) (by rw [zx_up_same, zu_eq]; rfl) ?_
            rw [zu_other (by decide), zx_up_same]
            exact h4.put (by rw [z_b8, hw]; rfl)
          have L : ∀ k : Nat, k ≤ 20 → (Int32.ofNat k ≤ Int32.ofNat i ↔ k ≤ i) := fun k hk => zo_le (by omega) (by omega)
          refine zp_ite (fun q => ?_) fun _ => zp_ite (fun q4 => zp_ite (fun q8 => zp_ite (fun q12 => zp_ite (fun q16 => C x5 ?_) fun q16 => C x4 ?_) fun q12 => C x3 ?_) fun q8 => C x2 ?_) fun q4 => C x1 ?_
          · have := (L 20 (by omega)).mp q
            omega
          · have a := (L 4 (by omega)).mp q4
            have b := (L 8 (by omega)).mp q8
            have c := (L 12 (by omega)).mp q12
            have d := (L 16 (by omega)).mp q16
            unfold wrd
            rw [if_neg (by omega), if_neg (by omega), if_neg (by omega), if_neg (by omega)]
          · have d : ¬ 16 ≤ i := fun x => q16 ((L 16 (by omega)).mpr x)
            have c := (L 12 (by omega)).mp q12
            unfold wrd
            rw [if_neg (by omega), if_neg (by omega), if_neg (by omega), if_pos (by omega)]
          · have d : ¬ 12 ≤ i := fun x => q12 ((L 12 (by omega)).mpr x)
            have c := (L 8 (by omega)).mp q8
            unfold wrd
            rw [if_neg (by omega), if_neg (by omega), if_pos (by omega)]
          · have d : ¬ 8 ≤ i := fun x => q8 ((L 8 (by omega)).mpr x)
            have c := (L 4 (by omega)).mp q4
            unfold wrd
            rw [if_neg (by omega), if_pos (by omega)]
          · have d : ¬ 4 ≤ i := fun x => q4 ((L 4 (by omega)).mpr x)
            unfold wrd
            rw [if_pos (by omega)]
    refine go N 0 _ (by omega) (fun q a _ => zu_other a) (fun j a _ => by rw [zx_up_same, zu_ne a]) (by rw [zx_up_same, zu_ne (by decide)]; exact h) (fun j => by rw [if_neg (by omega), zu_other (by decide)])
  · dsimp only; rw [zu_other a]
  · dsimp only; rw [zx_up_same, zu_ne a]
  · dsimp only; rw [zu_other (by decide)]
theorem z_brange (x : Int32) : -128 ≤ zJ_byte x ∧ zJ_byte x ≤ 127 := by
  have e : (zJ_byte x).toInt = x.toInt8.toInt := Int8.toInt_toInt32 _
  have a := Int8.le_toInt x.toInt8
  have b := Int8.toInt_lt x.toInt8
  exact ⟨Int32.le_iff_toInt_le.mpr (by rw [e]; show (-128 : Int) ≤ _; omega), Int32.le_iff_toInt_le.mpr (by rw [e]; show _ ≤ (127 : Int); omega)⟩
def EQV (σ : zS) (τ : zT) : Prop := RS τ ∧ σ 3 = σ 83 ∧ (∀ i, -128 ≤ σ 83 i ∧ σ 83 i ≤ 127) ∧ LO σ σ
theorem LO.of {ρ μ r ν : zS} (h : LO ρ μ) (e2 : r 2 13 = ρ 2 13) (e4 : ∀ i, i < 5 → r 4 i = ρ 4 i) (e5 : r 5 = ρ 5) (m21 : ν 82 21 = μ 82 21) (m82 : ∀ i, i = 15 ∨ i = 16 ∨ i = 17 ∨ i = 25 → ν 82 i = μ 82 i) (m90 : ν 90 = μ 90) : LO r ν := by
  rcases h with ⟨a, b⟩ | ⟨a, b, c⟩
  · exact Or.inl ⟨e2.trans a, m21.trans b⟩
  · exact Or.inr ⟨e2.trans a, m21.trans b, c.of e4 e5 m82 m90⟩
theorem EQV.x {σ r : zS} {τ : zT} (h : EQV σ τ) (f : FX σ r) (j : ∀ q, 82 ≤ q → r q = σ q) : EQV r τ := by
  obtain ⟨h1, h2, h3, h4⟩ := h
  have e82 := j 82 (by decide)
  refine ⟨h1, by rw [f.1 3 (by decide) (by decide), j 83 (by decide)]; exact h2, by rw [j 83 (by decide)]; exact h3, h4.of (f.2 13 (by decide) (by decide) (by decide)) (fun i _ => by rw [f.1 4 (by decide) (by decide)]) (f.1 5 (by decide) (by decide)) (by rw [e82]) (fun i _ => by rw [e82]) (j 90 (by decide))⟩
theorem EQV.m {σ r : zS} {τ : zT} (h : EQV σ τ) (f : FM σ r) : EQV r τ := by
  obtain ⟨h1, h2, h3, h4⟩ := h
  refine ⟨h1, by rw [f.1 3 (by decide) (by decide), f.1 83 (by decide) (by decide)]; exact h2, by rw [f.1 83 (by decide) (by decide)]; exact h3, h4.of (by rw [f.1 2 (by decide) (by decide)]) (fun i _ => by rw [f.1 4 (by decide) (by decide)]) (f.1 5 (by decide) (by decide)) (f.2 21 (by decide) (by decide)) (fun i hi => f.2 i (by omega) (by omega)) (f.1 90 (by decide) (by decide))⟩
theorem FX.rfl' {σ : zS} : FX σ σ := ⟨fun _ _ _ => rfl, fun _ _ _ _ => rfl⟩
theorem FM.rfl' {σ : zS} : FM σ σ := ⟨fun _ _ _ => rfl, fun _ _ _ => rfl⟩
theorem zq_both {α : Type} {o : Option α} {P Q : α → Prop} (h : zp o P) (k : zq o (fun r => P r → Q r)) : zq o Q := by
  cases o with
  | none => exact k
  | some v => exact k (h v rfl)
theorem p_count {N : Nat} {σ : zS} {τ : zT} {x : Int32} (ev : EQV σ τ) : zp (zf_X_count σ x) (fun r => zp (zf_M_count N σ x) (fun s => r = s.1)) := by
  unfold zf_X_count zf_M_count
  rcases ev.2.2.2 with ⟨a, b⟩ | ⟨a, b, c, len, h1, h2, h3, h4, h5, h6⟩
  · exact zp_ite (fun q => absurd a q) fun _ => zp_some (zp_ite (fun q => absurd b q) fun _ => zp_some rfl)
  · have a' : ¬ σ 2 13 = 0 := by rw [a]; decide
    have b' : ¬ σ 82 21 = 0 := by rw [b]; decide
    refine zp_ite (fun _ => ?_) fun q => absurd a' q
    refine zp_ite (fun x0 => zp_some (zp_ite (fun _ => zp_ite (fun _ => zp_some ?_) fun q => absurd x0 q) fun q => absurd b' q)) fun x0 => zp_ite (fun x1 => zp_some (zp_ite (fun _ => zp_ite (fun q => absurd q x0) fun _ => zp_ite (fun _ => zp_some ?_) fun q => absurd x1 q) fun q => absurd b' q)) fun x1 => zp_ite (fun x2 => zp_some (zp_ite (fun _ => zp_ite (fun q => absurd q x0) fun _ => zp_ite (fun q => absurd q x1) fun _ => zp_ite (fun _ => zp_some ?_) fun q => absurd x2 q) fun q => absurd b' q)) fun x2 => zp_ite (fun x3 => zp_some (zp_ite (fun _ => zp_ite (fun q => absurd q x0) fun _ => zp_ite (fun q => absurd q x1) fun _ => zp_ite (fun q => absurd q x2) fun _ => zp_ite (fun _ => zp_some ?_) fun q => absurd x3 q) fun q => absurd b' q)) fun x3 => zp_ite (fun x4 => zp_some (zp_ite (fun _ => zp_ite (fun q => absurd q x0) fun _ => zp_ite (fun q => absurd q x1) fun _ => zp_ite (fun q => absurd q x2) fun _ => zp_ite (fun q => absurd q x3) fun _ => zp_ite (fun _ => zp_bind (zp_mono (p_M_allSteps (nt := c 2) (len := len) ?_ h1 ?_) fun u hu => zp_some ?_)) fun q => absurd x4 q) fun q => absurd b' q)) fun x4 => zp_some (zp_ite (fun _ => zp_ite (fun q => absurd q x0) fun _ => zp_ite (fun q => absurd q x1) fun _ => zp_ite (fun q => absurd q x2) fun _ => zp_ite (fun q => absurd q x3) fun _ => zp_ite (fun q => absurd q x4) fun _ => zp_some rfl) fun q => absurd b' q)
    · exact (h2 0 (by decide)).1.trans (h2 0 (by decide)).2.symm
    · exact (h2 1 (by decide)).1.trans (h2 1 (by decide)).2.symm
    · exact (h2 2 (by decide)).1.trans (h2 2 (by decide)).2.symm
    · exact h6
    · rw [zx_up_same, zu_ne (by decide)]; exact (h2 2 (by decide)).2
    · intro t ht
      rw [zu_other (by decide)]
      exact ⟨(h3 t ht).1, (h3 t ht).2.2⟩
    · dsimp only
      rw [hu]; exact h5
theorem p_M_end {σ : zS} {x : Int32} : zp (zf_M_end σ x) (fun r => (∀ q, q ≠ 82 → r q = σ q) ∧ (∀ i, i ≠ 0 → i ≠ 2 → r 82 i = σ 82 i)) := by
  have A : ∀ v s, zp (zb_M_end_18 σ v s) (fun r => (∀ q, q ≠ 82 → r q = σ q) ∧ (∀ i, i ≠ 0 → i ≠ 2 → r 82 i = σ 82 i)) := fun v s => by
    unfold zb_M_end_18 zb_M_end_37
    exact zp_ite (fun _ => zp_some ⟨fun q a => by rw [zu_other a, zu_other a], fun i a b => by rw [zx_up_same, zu_ne b, zx_up_same, zu_ne a]⟩) fun _ => zp_some ⟨fun q a => by rw [zu_other a, zu_other a], fun i a b => by rw [zx_up_same, zu_ne b, zx_up_same, zu_ne a]⟩
  unfold zf_M_end
  exact zp_bind fun r _ => zp_ite (fun _ => A _ _) fun _ => A _ _
theorem EQV.ended {σ r ρ : zS} {τ : zT} {x : Int32} (h : EQV σ τ) (hr : ρ = zx_up σ 2 11 x ∨ ρ = σ) (f : (∀ q, q ≠ 82 → r q = ρ q) ∧ (∀ i, i ≠ 0 → i ≠ 2 → r 82 i = ρ 82 i)) : EQV r τ := by
  obtain ⟨h1, h2, h3, h4⟩ := h
  have e : (∀ q, q ≠ 2 → ρ q = σ q) ∧ (ρ 2 13 = σ 2 13) := by
    rcases hr with q | q <;> subst q
    · exact ⟨fun q a => zu_other a, by rw [zx_up_same, zu_ne (by decide)]⟩
    · exact ⟨fun _ _ => rfl, rfl⟩
  have g : ∀ q, q ≠ 2 → q ≠ 82 → r q = σ q := fun q a b => by rw [f.1 q b, e.1 q a]
  have g2 : ∀ i, i ≠ 0 → i ≠ 2 → r 82 i = σ 82 i := fun i a b => by rw [f.2 i a b, e.1 82 (by decide)]
  exact ⟨h1, by rw [g 3 (by decide) (by decide), g 83 (by decide) (by decide)]; exact h2, by rw [g 83 (by decide) (by decide)]; exact h3, h4.of (by rw [f.1 2 (by decide)]; exact e.2) (fun i _ => by rw [g 4 (by decide) (by decide)]) (g 5 (by decide) (by decide)) (g2 21 (by decide) (by decide)) (fun i hi => g2 i (by omega) (by omega)) (g 90 (by decide) (by decide))⟩
theorem EQV.feed {σ ρ r : zS} {τ υ : zT} {t n : Nat} {f : Nat → Int32} (h : EQV σ τ) (u1 : υ 1 = τ 1) (a : (∀ q, q ≠ 2 → q ≠ 3 → ρ q = σ q) ∧ (∀ i, i ≠ 11 → ρ 2 i = σ 2 i) ∧ tape (σ 3) (ρ 3) t n f) (b : (∀ q, q ≠ 82 → q ≠ 83 → r q = ρ q) ∧ (∀ i, i ≠ 0 → i ≠ 2 → r 82 i = ρ 82 i) ∧ tape (ρ 83) (r 83) t n f) (hb : ∀ i, -128 ≤ f i ∧ f i ≤ 127) : EQV r υ := by
  obtain ⟨h1, h2, h3, h4⟩ := h
  have e83 : ρ 83 = σ 83 := a.1 83 (by decide) (by decide)
  have e82 : ρ 82 = σ 82 := a.1 82 (by decide) (by decide)
  have g : ∀ q, q ≠ 2 → q ≠ 3 → q ≠ 82 → q ≠ 83 → r q = σ q := fun q x y z w => by rw [b.1 q z w, a.1 q x y]
  refine ⟨by unfold RS at *; rw [u1]; exact h1, ?_, fun i => ?_, h4.of (by rw [b.1 2 (by decide) (by decide), a.2.1 13 (by decide)]) (fun i _ => by rw [g 4 (by decide) (by decide) (by decide) (by decide)]) (g 5 (by decide) (by decide) (by decide) (by decide)) (by rw [b.2.1 21 (by decide) (by decide), e82]) (fun i hi => by rw [b.2.1 i (by omega) (by omega), e82]) (g 90 (by decide) (by decide) (by decide) (by decide))⟩
  · funext j
    rw [b.1 3 (by decide) (by decide), a.2.2 j, b.2.2 j, e83, h2]
  · rw [b.2.2 i, e83]
    by_cases c : t ≤ i ∧ i < t + n
    · rw [if_pos c]; exact hb _
    · rw [if_neg c]; exact h3 i
theorem EQV.full {σ r : zS} {τ : zT} (h : EQV σ τ) (b : (∀ q, q ≠ 82 → q ≠ 83 → r q = σ q) ∧ (∀ i, i ≠ 0 → i ≠ 2 → r 82 i = σ 82 i) ∧ r 83 = σ 83) : EQV r τ := by
  obtain ⟨h1, h2, h3, h4⟩ := h
  exact ⟨h1, by rw [b.1 3 (by decide) (by decide), b.2.2]; exact h2, by rw [b.2.2]; exact h3, h4.of (by rw [b.1 2 (by decide) (by decide)]) (fun i _ => by rw [b.1 4 (by decide) (by decide)]) (b.1 5 (by decide) (by decide)) (b.2.1 21 (by decide) (by decide)) (fun i hi => b.2.1 i (by omega) (by omega)) (b.1 90 (by decide) (by decide))⟩
theorem fed_rng {x1 x2 x3 x4 x5 : Int32} (i : Nat) : -128 ≤ fed x1 x2 x3 x4 x5 i ∧ fed x1 x2 x3 x4 x5 i ≤ 127 := z_brange _
theorem EQV.read {σ ρ r : zS} {τ υ : zT} (h : EQV σ τ) (f : FRd σ ρ ∧ GRd τ υ) (hi : ∀ q, 82 ≤ q → ρ q = σ q) (lo : ∀ q, q < 82 → r q = ρ q) (n : FMr ρ r) (l : LO ρ r) : EQV r υ := by
  obtain ⟨h1, h2, h3, h4⟩ := h
  have e83 : r 83 = σ 83 := (show r 83 = ρ 83 from n).trans (hi 83 (by decide))
  refine ⟨by unfold RS at *; rw [show υ 1 = τ 1 from f.2]; exact h1, by rw [lo 3 (by decide), f.1.1, e83]; exact h2, by rw [e83]; exact h3, l.of (by rw [lo 2 (by decide)]) (fun i _ => by rw [lo 4 (by decide)]) (lo 5 (by decide)) rfl (fun _ _ => rfl) rfl⟩
