-- both answer alike
set_option maxRecDepth 2000
def gb (w : Int32) (i : Nat) : Bool := w.toBitVec.getLsbD i
theorem gb_ext {a b : Int32} (h : ∀ i, i < 32 → gb a i = gb b i) : a = b := i32_ext h
theorem gb_and {a b : Int32} {i : Nat} : gb (a &&& b) i = (gb a i && gb b i) := by
  unfold gb
  rw [Int32.toBitVec_and, BitVec.getLsbD_and]
theorem gb_or {a b : Int32} {i : Nat} : gb (a ||| b) i = (gb a i || gb b i) := by
  unfold gb
  rw [Int32.toBitVec_or, BitVec.getLsbD_or]
theorem gb_m1 : ∀ i : Fin 32, gb (-1) i.val = true := by decide +kernel
theorem gb_not {a : Int32} {i : Nat} (hi : i < 32) : gb (a ^^^ (-1)) i = !gb a i := by
  have m : gb (-1) i = true := gb_m1 ⟨i, hi⟩
  unfold gb at *
  rw [Int32.toBitVec_xor, BitVec.getLsbD_xor, m, Bool.xor_true]
theorem gb_shl {x : Int32} {n i : Nat} (hn : n < 24) (hi : i < 32) : gb (zJ_shl x (Int32.ofNat n)) i = (decide (n ≤ i) && gb x (i - n)) := shl_get hn hi
theorem gb_ushr {x : Int32} {n i : Nat} (hn : n < 24) : gb (zJ_ushr x (Int32.ofNat n)) i = gb x (n + i) := by
  unfold gb
  rw [ushr_bits hn, BitVec.getLsbD_ushiftRight]
theorem gb_ge {x : Int32} {i : Nat} (h : 32 ≤ i) : gb x i = false := BitVec.getLsbD_of_ge _ _ h
theorem gb_c7 : ∀ i : Fin 32, gb 7 i.val = decide (i.val < 3) := by decide +kernel
theorem gb_c31 : ∀ i : Fin 32, gb 31 i.val = decide (i.val < 5) := by decide +kernel
theorem gb_c511 : ∀ i : Fin 32, gb 511 i.val = decide (i.val < 9) := by decide +kernel
theorem gb_cK : ∀ i : Fin 32, gb 131583 i.val = decide (i.val < 9 ∨ i.val = 17) := by decide +kernel
theorem gb_cS : ∀ i : Fin 32, gb (-131073) i.val = decide (i.val ≠ 17) := by decide +kernel
theorem gb_c0 : ∀ i : Fin 32, gb 0 i.val = false := by decide +kernel
theorem gb_zero {i : Nat} : gb 0 i = false := by
  by_cases c : i < 32
  · exact gb_c0 ⟨i, c⟩
  · exact gb_ge (by omega)
theorem gb7 {i : Nat} (hi : i < 32) : gb 7 i = decide (i < 3) := gb_c7 ⟨i, hi⟩
theorem gb31 {i : Nat} (hi : i < 32) : gb 31 i = decide (i < 5) := gb_c31 ⟨i, hi⟩
theorem gb_lo7 {x : Int32} (h : 0 ≤ x ∧ x ≤ 7) {i : Nat} (hi : 3 ≤ i) : gb x i = false := low3' h hi
theorem gb_l5 : ∀ x : Fin 32, ∀ i : Fin 32, 5 ≤ i.val → gb (Int32.ofNat x.val) i.val = false := by decide +kernel
theorem gb_lo31 {x : Int32} (h : 0 ≤ x ∧ x ≤ 31) {i : Nat} (hi : 5 ≤ i) : gb x i = false := by
  have xt : Int32.ofNat x.toNatClampNeg = x := zo_mk h.1
  have n := z_nat h.1
  have b := Int32.le_iff_toInt_le.mp h.2
  have k : (31 : Int32).toInt = 31 := rfl
  by_cases c : i < 32
  · have l : gb (Int32.ofNat x.toNatClampNeg) i = false := gb_l5 ⟨x.toNatClampNeg, by omega⟩ ⟨i, c⟩ hi
    rw [xt] at l
    exact l
  · exact gb_ge (by omega)
theorem gb_set {w y : Int32} {n i : Nat} (hn : n < 24) (hi : i < 32) : gb ((w &&& ((zJ_shl 7 (Int32.ofNat n)) ^^^ (-1))) ||| (zJ_shl (y &&& 7) (Int32.ofNat n))) i = if n ≤ i ∧ i < n + 3 then gb (y &&& 7) (i - n) else gb w i := by
  rw [gb_or, gb_and, gb_not hi, gb_shl hn hi, gb_shl hn hi]
  by_cases c : n ≤ i ∧ i < n + 3
  · rw [if_pos c, decide_eq_true c.1, gb7 (i := i - n) (by omega), decide_eq_true (show i - n < 3 by omega)]
    simp
  · rw [if_neg c]
    by_cases d : n ≤ i
    · rw [decide_eq_true d, gb7 (i := i - n) (by omega), decide_eq_false (show ¬ i - n < 3 by omega), gb_lo7 (z_and y 7 (by decide)) (show 3 ≤ i - n by omega)]
      simp
    · rw [decide_eq_false d]
      simp
def TWB (w s h : Int32) (v : Nat → Int32) : Prop := ((0 ≤ s ∧ s ≤ 31) ∧ (0 ≤ h ∧ h ≤ 7) ∧ ∀ i, i < 3 → 0 ≤ v i ∧ v i ≤ 7) ∧ (∀ i, i < 3 → ∀ b, b < 3 → gb w (3 * i + b) = gb (v i) b) ∧ (∀ b, b < 5 → gb w (9 + b) = gb s b) ∧ (∀ b, b < 3 → gb w (14 + b) = gb h b) ∧ (∀ i, 17 ≤ i → gb w i = false)
theorem TWB.stp {w s h : Int32} {v : Nat → Int32} (t : TWB w s h v) : (zJ_ushr w 9) &&& 31 = s := gb_ext fun i hi => by
  rw [gb_and, show (9 : Int32) = Int32.ofNat 9 from rfl, gb_ushr (by omega), gb31 hi]
  by_cases c : i < 5
  · rw [t.2.2.1 i c, decide_eq_true c, Bool.and_true]
  · rw [decide_eq_false c, Bool.and_false, gb_lo31 t.1.1 (by omega)]
theorem TWB.how {w s h : Int32} {v : Nat → Int32} (t : TWB w s h v) : (zJ_ushr w 14) &&& 7 = h := gb_ext fun i hi => by
  rw [gb_and, show (14 : Int32) = Int32.ofNat 14 from rfl, gb_ushr (by omega), gb7 hi]
  by_cases c : i < 3
  · rw [t.2.2.2.1 i c, decide_eq_true c, Bool.and_true]
  · rw [decide_eq_false c, Bool.and_false, gb_lo7 t.1.2.1 (by omega)]
theorem TWB.loc {w s h : Int32} {v : Nat → Int32} (t : TWB w s h v) {j : Nat} (hj : j < 3) : (zJ_ushr w (Int32.ofNat (3 * j))) &&& 7 = v j := gb_ext fun i hi => by
  rw [gb_and, gb_ushr (by omega), gb7 hi]
  by_cases c : i < 3
  · rw [t.2.1 j hj i c, decide_eq_true c, Bool.and_true]
  · rw [decide_eq_false c, Bool.and_false, gb_lo7 (t.1.2.2 j hj) (by omega)]
theorem TWB.plc {w s h s' h' m : Int32} {v : Nat → Int32} (t : TWB w s h v) (hm : m = 511 ∨ m = 131583) (hs : 0 ≤ s' ∧ s' ≤ 31) (hh : 0 ≤ h' ∧ h' ≤ 7) : TWB (((w &&& m) ||| (zJ_shl s' 9)) ||| (zJ_shl h' 14)) s' h' v := by
  have mb : ∀ i, i < 17 → gb m i = decide (i < 9) := fun i hi => by
    rcases hm with e | e
    · rw [e]; exact gb_c511 ⟨i, by omega⟩
    · have k : gb 131583 i = decide (i < 9 ∨ i = 17) := gb_cK ⟨i, by omega⟩
      rw [e, k]
      by_cases c : i < 9
      · rw [decide_eq_true (Or.inl c), decide_eq_true c]
      · rw [decide_eq_false (by omega), decide_eq_false c]
  have key : ∀ i, i < 32 → gb (((w &&& m) ||| (zJ_shl s' 9)) ||| (zJ_shl h' 14)) i = (((gb w i && gb m i) || (decide (9 ≤ i) && gb s' (i - 9))) || (decide (14 ≤ i) && gb h' (i - 14))) := fun i hi => by
    rw [gb_or, gb_or, gb_and, show (9 : Int32) = Int32.ofNat 9 from rfl, show (14 : Int32) = Int32.ofNat 14 from rfl, gb_shl (by omega) hi, gb_shl (by omega) hi]
  refine ⟨⟨hs, hh, t.1.2.2⟩, fun i hi b hb => ?_, fun b hb => ?_, fun b hb => ?_, fun i hi => ?_⟩
  · rw [key _ (by omega), mb _ (by omega), decide_eq_true (show 3 * i + b < 9 by omega), decide_eq_false (show ¬ 9 ≤ 3 * i + b by omega), decide_eq_false (show ¬ 14 ≤ 3 * i + b by omega), t.2.1 i hi b hb]
    simp
  · rw [key _ (by omega), mb _ (by omega), decide_eq_false (show ¬ 9 + b < 9 by omega), decide_eq_true (show 9 ≤ 9 + b by omega), decide_eq_false (show ¬ 14 ≤ 9 + b by omega), show 9 + b - 9 = b by omega]
    simp
  · rw [key _ (by omega), mb _ (by omega), decide_eq_false (show ¬ 14 + b < 9 by omega), decide_eq_true (show 14 ≤ 14 + b by omega), show 14 + b - 14 = b by omega, gb_lo31 hs (show 5 ≤ 14 + b - 9 by omega)]
    simp
  · by_cases c : i < 32
    · rw [key i c, t.2.2.2.2 i hi, gb_lo31 hs (show 5 ≤ i - 9 by omega), gb_lo7 hh (show 3 ≤ i - 14 by omega)]
      simp
    · exact gb_ge (by omega)
theorem TWB.set {w s h y : Int32} {v : Nat → Int32} (t : TWB w s h v) {j : Nat} (hj : j < 3) : TWB ((w &&& ((zJ_shl 7 (Int32.ofNat (3 * j))) ^^^ (-1))) ||| (zJ_shl (y &&& 7) (Int32.ofNat (3 * j)))) s h (zu v j (y &&& 7)) := by
  have y7 := z_and y 7 (by decide)
  refine ⟨⟨t.1.1, t.1.2.1, fun i hi => ?_⟩, fun i hi b hb => ?_, fun b hb => ?_, fun b hb => ?_, fun i hi => ?_⟩
  · by_cases c : i = j
    · rw [c, zu_eq]; exact y7
    · rw [zu_ne c]; exact t.1.2.2 i hi
  · rw [gb_set (by omega) (by omega)]
    by_cases c : i = j
    · rw [c, if_pos (by omega), zu_eq, show 3 * j + b - 3 * j = b by omega]
    · rw [if_neg (by omega), zu_ne c]; exact t.2.1 i hi b hb
  · rw [gb_set (by omega) (by omega), if_neg (by omega)]; exact t.2.2.1 b hb
  · rw [gb_set (by omega) (by omega), if_neg (by omega)]; exact t.2.2.2.1 b hb
  · by_cases c : i < 32
    · rw [gb_set (by omega) c, if_neg (by omega)]; exact t.2.2.2.2 i hi
    · exact gb_ge (by omega)
theorem TWB.one {w w' s h : Int32} {v v' : Nat → Int32} (t : TWB w s h v) (t' : TWB w' s h v') (e : ∀ i, i < 3 → v i = v' i) : w = w' := gb_ext fun i hi => by
  by_cases c : i < 9
  · have a := t.2.1 (i / 3) (by omega) (i % 3) (by omega)
    have a' := t'.2.1 (i / 3) (by omega) (i % 3) (by omega)
    rw [show 3 * (i / 3) + i % 3 = i by omega] at a a'
    rw [a, a', e _ (by omega)]
  · by_cases d : i < 14
    · have a := t.2.2.1 (i - 9) (by omega)
      have a' := t'.2.2.1 (i - 9) (by omega)
      rw [show 9 + (i - 9) = i by omega] at a a'
      rw [a, a']
    · by_cases f : i < 17
      · have a := t.2.2.2.1 (i - 14) (by omega)
        have a' := t'.2.2.2.1 (i - 14) (by omega)
        rw [show 14 + (i - 14) = i by omega] at a a'
        rw [a, a']
      · rw [t.2.2.2.2 i (by omega), t'.2.2.2.2 i (by omega)]
theorem TWB.spn {w s h : Int32} {v : Nat → Int32} (t : TWB w s h v) : (w &&& (-131073)) ||| (zJ_shl 0 17) = w := gb_ext fun i hi => by
  have k : gb (-131073) i = decide (i ≠ 17) := gb_cS ⟨i, hi⟩
  rw [gb_or, gb_and, k, show (17 : Int32) = Int32.ofNat 17 from rfl, gb_shl (by omega) hi, gb_zero, Bool.and_false, Bool.or_false]
  by_cases c : i = 17
  · rw [c, t.2.2.2.2 17 (by omega)]; rfl
  · rw [decide_eq_true c, Bool.and_true]
theorem TWB.of {w s h s' h' : Int32} {v v' : Nat → Int32} (t : TWB w s h v) (es : s' = s) (eh : h' = h) (ev : ∀ i, i < 3 → v' i = v i) : TWB w s' h' v' := by
  subst es eh
  refine ⟨⟨t.1.1, t.1.2.1, fun i hi => by rw [ev i hi]; exact t.1.2.2 i hi⟩, fun i hi b hb => by rw [ev i hi]; exact t.2.1 i hi b hb, t.2.2⟩
def FWB (w : Int32) (x : Nat → Int32) : Prop := (∀ f, f < 6 → 0 ≤ x f ∧ x f ≤ 7) ∧ (∀ f, f < 6 → ∀ b, b < 3 → gb w (3 * f + b) = gb (x f) b) ∧ (∀ i, 18 ≤ i → gb w i = false)
theorem FWB.get {w : Int32} {x : Nat → Int32} (t : FWB w x) {j : Nat} (hj : j < 6) : (zJ_ushr w (Int32.ofNat (3 * j))) &&& 7 = x j := gb_ext fun i hi => by
  rw [gb_and, gb_ushr (by omega), gb7 hi]
  by_cases c : i < 3
  · rw [t.2.1 j hj i c, decide_eq_true c, Bool.and_true]
  · rw [decide_eq_false c, Bool.and_false, gb_lo7 (t.1 j hj) (by omega)]
theorem FWB.set {w y : Int32} {x : Nat → Int32} (t : FWB w x) {j : Nat} (hj : j < 6) : FWB ((w &&& ((zJ_shl 7 (Int32.ofNat (3 * j))) ^^^ (-1))) ||| (zJ_shl (y &&& 7) (Int32.ofNat (3 * j)))) (zu x j (y &&& 7)) := by
  have y7 := z_and y 7 (by decide)
  refine ⟨fun i hi => ?_, fun i hi b hb => ?_, fun i hi => ?_⟩
  · by_cases c : i = j
    · rw [c, zu_eq]; exact y7
    · rw [zu_ne c]; exact t.1 i hi
  · rw [gb_set (by omega) (by omega)]
    by_cases c : i = j
    · rw [c, if_pos (by omega), zu_eq, show 3 * j + b - 3 * j = b by omega]
    · rw [if_neg (by omega), zu_ne c]; exact t.2.1 i hi b hb
  · by_cases c : i < 32
    · rw [gb_set (by omega) c, if_neg (by omega)]; exact t.2.2 i hi
    · exact gb_ge (by omega)
theorem FWB.one {w w' : Int32} {x x' : Nat → Int32} (t : FWB w x) (t' : FWB w' x') (e : ∀ f, f < 6 → x f = x' f) : w = w' := gb_ext fun i hi => by
  by_cases c : i < 18
  · have a := t.2.1 (i / 3) (by omega) (i % 3) (by omega)
    have a' := t'.2.1 (i / 3) (by omega) (i % 3) (by omega)
    rw [show 3 * (i / 3) + i % 3 = i by omega] at a a'
    rw [a, a', e _ (by omega)]
  · rw [t.2.2 i (by omega), t'.2.2 i (by omega)]
theorem FWB.of {w : Int32} {x x' : Nat → Int32} (t : FWB w x) (e : ∀ f, f < 6 → x' f = x f) : FWB w x' := ⟨fun f hf => by rw [e f hf]; exact t.1 f hf, fun f hf b hb => by rw [e f hf]; exact t.2.1 f hf b hb, t.2.2⟩
theorem and7 {x : Int32} (h : 0 ≤ x ∧ x ≤ 7) : x &&& 7 = x := gb_ext fun i hi => by
  rw [gb_and, gb7 hi]
  by_cases c : i < 3
  · rw [decide_eq_true c, Bool.and_true]
  · rw [decide_eq_false c, Bool.and_false, gb_lo7 h (by omega)]
