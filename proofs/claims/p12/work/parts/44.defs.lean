/-! FUNCTIONS OF THE METHODS, by program: what a function answers is what zx_go answers -/
abbrev zS : Type := Nat → Nat → Int32
abbrev zT : Type := Nat → Nat → Int64
def zJ_shl (x y : Int32) : Int32 := x <<< (y &&& 31)
def zJ_shr (x y : Int32) : Int32 := x >>> (y &&& 31)
def zJ_ushr (x y : Int32) : Int32 := (x.toUInt32 >>> (y.toUInt32 &&& Int32.toUInt32 31)).toInt32
def zJ_rem (x y : Int32) : Int32 := x - x / y * y
def zJ_byte (x : Int32) : Int32 := x.toInt8.toInt32
def zJ_lshl (x : Int64) (y : Int32) : Int64 := x <<< (y.toInt64 &&& 63)
def zJ_cl (o : Option Value) : Option Value := match o with
  | some (.long _) => none
  | some (.double _) => none
  | _ => o
theorem zJ_s1 {ls : List (Option Value)} {k : Nat} {o : Option Value} {v : Value} (h : ls[k]? = some o) : zx_s1 ls (k + 1) v = (ls.set k (zJ_cl o)).set (k + 1) (some v) := by
  have e : ls.set k o = ls := by
    apply List.ext_getElem?
    intro i
    rw [List.getElem?_set]
    split
    · rename_i q
      subst q
      split
      · exact h.symm
      · rename_i q
        rw [List.getElem?_eq_none (by omega)] at h
        cases h
    · rfl
  have e2 : zx_cl ls (k + 1) = ls.set k (zJ_cl o) := by
    unfold zx_cl zx_get
    dsimp only
    rw [h]
    cases o with
    | none => exact e.symm
    | some u => cases u <;> first | rfl | exact e.symm
  unfold zx_s1
  rw [e2]
theorem zJ_ne {x z : Int32} {a : Int} (h : ¬ x = z) (hz : z.toInt = a) : ¬ a = x.toInt := fun q => h (Int32.toInt_inj.mp (hz.trans q).symm)
def zJ_bit (x : Int32) : Bool := x == 0 || x == 1
def zJ_cp (sp dp m : Int32) (n0 n1 : Nat) : Bool := decide ((¬ sp < 0 ∧ ¬ dp < 0 ∧ ¬ m < 0) ∧ sp.toNatClampNeg + m.toNatClampNeg ≤ n0 ∧ dp.toNatClampNeg + m.toNatClampNeg ≤ n1)
def zJ_copy (σ : zS) (p q : Nat) (sp dp m : Int32) : zS := fun u i => if u = q then va_cpy (σ p) (σ q) sp.toNatClampNeg dp.toNatClampNeg m.toNatClampNeg i else σ u i
theorem zp_copy {d j pc i a b n0 n1 : Nat} {sp dp m : Int32} {ls : List (Option Value)} {r : List Value} {n : Nat} {s : Nat × Nat} {K : Nat → zx_K} {σ : zS} {τ : zT} {ρ : Nat → Nat → Option Nat} (hd : decode (zm_cc j) pc = .ok (.invokestatic i, 3)) (ht : zx_tg (zm_o j) i = some 1000) (hc : (r.map fun v => v.category).sum ≤ 8) (hKa : K a = .inr (.int, n0)) (hKb : K b = .inr (.int, n1)) (hq : (2 ≤ a ∧ a < n) ∧ (2 ≤ b ∧ b < n)) (h : zJ_cp sp dp m n0 n1 = true) : zx_go (d + 1) j pc ls (.int m :: .int dp :: .ref b :: .int sp :: .ref a :: r) ((n, s), K, σ, τ, ρ) = zx_go (d + 1) j (pc + 3) ls r ((n, s), K, zJ_copy σ a b sp dp m, τ, ρ) := zs_copy hd ht hc hKa hKb ⟨hq, of_decide_eq_true h⟩
theorem zJ_in {i c : Int32} {m : Nat} (h : 0 ≤ i ∧ i < c) (hc : c.toNatClampNeg = m) : zx_ins i m = true := by
  have h1 := Int32.le_iff_toInt_le.mp h.1
  have h2 := Int32.lt_iff_toInt_lt.mp h.2
  rw [show (0 : Int32).toInt = 0 from rfl] at h1
  have h3 : ¬ i < 0 := fun q => by
    have := Int32.lt_iff_toInt_lt.mp q
    rw [show (0 : Int32).toInt = 0 from rfl] at this
    omega
  have h4 : i.toNatClampNeg < m := by
    unfold Int32.toNatClampNeg at hc ⊢
    omega
  simp [zx_ins, h3, h4]
theorem zJ_bt {x : Int32} (h : x = 0 ∨ x = 1) : (x == 0 || x == 1) = true := by
  rcases h with rfl | rfl <;> rfl
theorem zJ_cpi {sp dp m c0 c1 : Int32} {n0 n1 : Nat} (h : 0 ≤ sp ∧ sp ≤ c0 ∧ 0 ≤ dp ∧ dp ≤ c1) (hm : ¬ m < 0) (h0 : c0.toNatClampNeg + m.toNatClampNeg ≤ n0) (h1 : c1.toNatClampNeg + m.toNatClampNeg ≤ n1) : zJ_cp sp dp m n0 n1 = true := by
  obtain ⟨a1, a2, a3, a4⟩ := h
  have z0 : (0 : Int32).toInt = 0 := rfl
  have b1 := Int32.le_iff_toInt_le.mp a1
  have b2 := Int32.le_iff_toInt_le.mp a2
  have b3 := Int32.le_iff_toInt_le.mp a3
  have b4 := Int32.le_iff_toInt_le.mp a4
  rw [z0] at b1 b3
  have e1 : ¬ sp < 0 := fun q => by
    have := Int32.lt_iff_toInt_lt.mp q
    rw [z0] at this
    omega
  have e2 : ¬ dp < 0 := fun q => by
    have := Int32.lt_iff_toInt_lt.mp q
    rw [z0] at this
    omega
  unfold Int32.toNatClampNeg at h0 h1
  unfold zJ_cp Int32.toNatClampNeg
  exact decide_eq_true ⟨⟨e1, e2, hm⟩, by omega, by omega⟩
theorem zJ_lc {x y : Int64} : x = y ↔ lg_cmp x y = 0 := by
  constructor
  · intro h
    subst h
    simp [lg_cmp]
  · intro h
    unfold lg_cmp at h
    grind
theorem zx_rcb_ok {k q : Nat} {as : List Value} {w : zx_W} (hK : w.2.1 q = .inl (zm_o k)) (hq : q < w.1.1) : zx_rcb 0 k (.ref q :: as) w = true := by
  simp [zx_rcb, hK, hq]
def zR : Nat → Nat → Option Nat := (zx_up (zx_up (zx_up (zx_up (zx_up (zx_up (zx_up (zx_up (zx_up (zx_up (zx_up (zx_up (zx_up (zx_up (zx_up (zx_up (zx_up (zx_up (zx_up (zx_up (zx_up (zx_up (zx_up (zx_up (zx_up (zx_up (zx_up (zx_up (zx_up (zx_up (zx_up (zx_up (zx_up (zx_up (zx_up (zx_up (zx_up (zx_up (zx_up (zx_up (zx_up (zx_up (zx_up (zx_up (zx_up (zx_up (zx_up (zx_up (zx_up (zx_up (zx_up (zx_up (zx_up (zx_up (zx_up (zx_up (zx_up (zx_up (zx_up (zx_up (zx_up (zx_up (zx_up (zx_up (zx_up (zx_up (zx_up (zx_up (zx_up (zx_up (zx_up (zx_up (zx_up (zx_up (zx_up (zx_up (zx_up (zx_up (zx_up (zx_up (zx_up (zx_up (zx_up (zx_up (zx_up (zx_up (zx_up (zx_up (zx_up (zx_up (zx_up (zx_up (zx_up (zx_up (zx_up (zx_up (zx_up (zx_up (zx_up (zx_up (zx_up (zx_up (zx_up (zx_up (zx_up (zx_up (zx_up (zx_up (zx_up (zx_up (zx_up (zx_up (zx_up (zx_up (zx_up (zx_up (zx_up (zx_up (zx_up (zx_up (zx_up (zx_up (zx_up (zx_up (zx_up (zx_up (zx_up (fun _ _ => none) 2 0 (some 3)) 4 7 (some 5)) 4 8 (some 6)) 4 9 (some 7)) 4 10 (some 8)) 4 11 (some 9)) 4 12 (some 10)) 4 13 (some 11)) 4 14 (some 12)) 4 15 (some 13)) 4 16 (some 14)) 4 17 (some 15)) 4 18 (some 16)) 2 1 (some 4)) 18 0 (some 19)) 18 1 (some 20)) 18 2 (some 21)) 18 4 (some 22)) 17 2 (some 18)) 17 4 (some 23)) 17 5 (some 24)) 17 0 (some 4)) 25 1 (some 26)) 25 2 (some 27)) 25 3 (some 28)) 25 0 (some 3)) 17 1 (some 25)) 29 1 (some 30)) 29 2 (some 31)) 29 3 (some 32)) 29 4 (some 33)) 29 5 (some 34)) 29 0 (some 4)) 17 3 (some 29)) 2 2 (some 17)) 35 1 (some 36)) 35 2 (some 37)) 35 3 (some 38)) 35 4 (some 39)) 35 5 (some 40)) 35 0 (some 4)) 2 3 (some 35)) 41 2 (some 42)) 41 3 (some 43)) 41 4 (some 44)) 41 5 (some 45)) 41 0 (some 4)) 41 1 (some 35)) 2 4 (some 41)) 47 0 (some 48)) 46 2 (some 47)) 49 0 (some 50)) 46 3 (some 49)) 51 0 (some 52)) 46 4 (some 51)) 53 0 (some 54)) 46 5 (some 53)) 55 0 (some 56)) 46 6 (some 55)) 46 8 (some 57)) 46 0 (some 4)) 46 1 (some 35)) 59 0 (some 60)) 58 1 (some 59)) 61 0 (some 62)) 58 2 (some 61)) 58 3 (some 63)) 58 0 (some 35)) 46 7 (some 58)) 2 5 (some 46)) 64 2 (some 65)) 64 3 (some 66)) 64 4 (some 67)) 64 5 (some 68)) 64 0 (some 4)) 64 1 (some 35)) 2 6 (some 64)) 70 0 (some 71)) 69 1 (some 70)) 72 0 (some 73)) 69 2 (some 72)) 69 3 (some 74)) 69 0 (some 35)) 2 7 (some 69)) 2 8 (some 75)) 76 1 (some 77)) 76 2 (some 78)) 79 0 (some 80)) 76 3 (some 79)) 76 0 (some 4)) 2 9 (some 76)) 2 10 (some 81)) 82 1 (some 83)) 82 3 (some 84)) 82 13 (some 85)) 82 14 (some 86)) 82 20 (some 87)) 82 22 (some 88)) 82 23 (some 89)) 82 24 (some 90)) 82 26 (some 91)) 82 27 (some 92)) 82 28 (some 93)) 82 29 (some 94)) 82 30 (some 95)) 82 31 (some 96)) 82 32 (some 97)) 82 33 (some 98)) 82 34 (some 99)) 82 35 (some 100)) 82 36 (some 101)) 82 38 (some 102)) 82 42 (some 103)) 82 43 (some 104)) 82 44 (some 105)) 82 45 (some 106)) 82 47 (some 107)) 82 48 (some 108)) 82 49 (some 109)) 82 50 (some 110)) 82 55 (some 111)) 82 56 (some 112)) 82 57 (some 113)) 82 58 (some 114)) 82 59 (some 115)) 82 61 (some 116)) 82 63 (some 117))
def zb_X_putBytes_3 (N : Nat) : Nat → zS → Int32 → Int32 → Option (zS)
  | 0, _, _, _ => none
  | n + 1, σ, v1, v2 =>
    if v2 < 0 then
      some (σ)
    else
      if 1500 ≤ (σ 2 11) then
        some (σ)
      else
        if 0 ≤ (σ 2 11) ∧ (σ 2 11) < 1500 then
          zb_X_putBytes_3 N n (zx_up (zx_up σ 3 (σ 2 11).toNatClampNeg (zJ_byte (zJ_byte (zJ_ushr v1 v2)))) 2 11 ((σ 2 11) + 1)) v1 (v2 + (-8))
        else none
/-- RX11.putBytes [2] -/
def zf_X_putBytes (N : Nat) (σ : zS) (x1 : Int32) : Option (zS) :=
  zb_X_putBytes_3 N N σ x1 24
def zb_X_feed_20 (N : Nat) (σ : zS) : Option (Int32 × zS) :=
  none
/-- RX11.feed [2] -/
def zf_X_feed (N : Nat) (σ : zS) (x1 : Int32) (x2 : Int32) (x3 : Int32) (x4 : Int32) (x5 : Int32) : Option (Int32 × zS) :=
  if (σ 2 11) < 0 then
    zb_X_feed_20 N σ
  else
    if ((σ 2 11) + 20) ≤ 1500 then
      (zf_X_putBytes N σ x1).bind fun r3 =>
      (zf_X_putBytes N r3 x2).bind fun r4 =>
      (zf_X_putBytes N r4 x3).bind fun r5 =>
      (zf_X_putBytes N r5 x4).bind fun r6 =>
      (zf_X_putBytes N r6 x5).bind fun r7 =>
      some ((r7 2 11), r7)
    else
      zb_X_feed_20 N σ
def zb_M_feed_87 (k34 : zS → Int32 → Int32 → Int32 → Int32 → Int32 → Int32 → Option (Int32 × zS)) (N : Nat) (σ : zS) (v1 : Int32) (v2 : Int32) (v3 : Int32) (v4 : Int32) (v5 : Int32) (v6 : Int32) (s0 : Int32) : Option (Int32 × zS) :=
  if 0 ≤ (σ 82 2) ∧ (σ 82 2) < 1500 then
    k34 (zx_up (zx_up σ 83 (σ 82 2).toNatClampNeg (zJ_byte (zJ_byte (zJ_shr s0 (24 - (8 * (zJ_rem v6 4))))))) 82 2 ((σ 82 2) + 1)) v1 v2 v3 v4 v5 (v6 + 1)
  else none
def zb_M_feed_34 (N : Nat) : Nat → zS → Int32 → Int32 → Int32 → Int32 → Int32 → Int32 → Option (Int32 × zS)
  | 0, _, _, _, _, _, _, _ => none
  | n + 1, σ, v1, v2, v3, v4, v5, v6 =>
    if 20 ≤ v6 then
      some ((σ 82 2), σ)
    else
      if 4 ≤ v6 then
        if 8 ≤ v6 then
          if 12 ≤ v6 then
            if 16 ≤ v6 then
              zb_M_feed_87 (zb_M_feed_34 N n) N σ v1 v2 v3 v4 v5 v6 v5
            else
              zb_M_feed_87 (zb_M_feed_34 N n) N σ v1 v2 v3 v4 v5 v6 v4
          else
            zb_M_feed_87 (zb_M_feed_34 N n) N σ v1 v2 v3 v4 v5 v6 v3
        else
          zb_M_feed_87 (zb_M_feed_34 N n) N σ v1 v2 v3 v4 v5 v6 v2
      else
        zb_M_feed_87 (zb_M_feed_34 N n) N σ v1 v2 v3 v4 v5 v6 v1
def zb_M_feed_19 (N : Nat) (σ : zS) (v1 : Int32) (v2 : Int32) (v3 : Int32) (v4 : Int32) (v5 : Int32) (s0 : Int32) : Option (Int32 × zS) :=
  if s0 ≤ 0 then
    zb_M_feed_34 N N (zx_up σ 82 0 s0) v1 v2 v3 v4 v5 0
  else
    some (0, (zx_up σ 82 0 s0))
/-- RX12.feed [82] -/
def zf_M_feed (N : Nat) (σ : zS) (x1 : Int32) (x2 : Int32) (x3 : Int32) (x4 : Int32) (x5 : Int32) : Option (Int32 × zS) :=
  if ((σ 82 2) + 20) ≤ 1500 then
    zb_M_feed_19 N σ x1 x2 x3 x4 x5 0
  else
    zb_M_feed_19 N σ x1 x2 x3 x4 x5 1
def zb_X_end_12 (σ : zS) : Option (zS) :=
  none
/-- RX11.end [2] -/
def zf_X_end (σ : zS) (x1 : Int32) : Option (zS) :=
  if x1 < 0 then
    zb_X_end_12 σ
  else
    if x1 ≤ (σ 2 11) then
      some ((zx_up σ 2 11 x1))
    else
      zb_X_end_12 σ
/-- RX12.in [] -/
def zf_M_in (σ : zS) (x1 : Int32) (x2 : Int32) (x3 : Int32) : Option (Int32) :=
  if x1 < x2 then
    some (0)
  else
    if x3 < x1 then
      some (0)
    else
      some (1)
def zb_M_end_37 (σ : zS) (s0 : Int32) : Option (zS) :=
  some ((zx_up σ 82 2 s0))
def zb_M_end_18 (σ : zS) (v1 : Int32) (s0 : Int32) : Option (zS) :=
  if s0 ≤ 0 then
    zb_M_end_37 (zx_up σ 82 0 s0) v1
  else
    zb_M_end_37 (zx_up σ 82 0 s0) (σ 82 2)
/-- RX12.end [82] -/
def zf_M_end (σ : zS) (x1 : Int32) : Option (zS) :=
  (zf_M_in σ x1 0 (σ 82 2)).bind fun r1 =>
  if r1 = 0 then
    zb_M_end_18 σ x1 1
  else
    zb_M_end_18 σ x1 0
def zb_Arrays_fill_5 (N : Nat) : Nat → zS → Int32 → Int32 → Int32 → Option (zS)
  | 0, _, _, _, _ => none
  | n + 1, σ, v1, v2, v3 =>
    if v3 ≤ v2 then
      some (σ)
    else
      if 0 ≤ v2 ∧ v2 < 4 then
        zb_Arrays_fill_5 N n (zx_up σ 5 v2.toNatClampNeg v1) v1 (v2 + 1) v3
      else none
/-- RJ7.fill [5] -/
def zf_Arrays_fill (N : Nat) (σ : zS) (x2 : Int32) : Option (zS) :=
  zb_Arrays_fill_5 N N σ x2 0 4
def zb_Arrays_fill_c1_5 (N : Nat) : Nat → zS → Int32 → Int32 → Int32 → Option (zS)
  | 0, _, _, _, _ => none
  | n + 1, σ, v1, v2, v3 =>
    if v3 ≤ v2 then
      some (σ)
    else
      if 0 ≤ v2 ∧ v2 < 4 then
        zb_Arrays_fill_c1_5 N n (zx_up σ 6 v2.toNatClampNeg v1) v1 (v2 + 1) v3
      else none
/-- RJ7.fill [6] -/
def zf_Arrays_fill_c1 (N : Nat) (σ : zS) (x2 : Int32) : Option (zS) :=
  zb_Arrays_fill_c1_5 N N σ x2 0 4
/-- RX6.clear [4] -/
def zf_Program_clear (N : Nat) (σ : zS) : Option (zS) :=
  (zf_Arrays_fill N (zx_up (zx_up (zx_up (zx_up (zx_up (zx_up (zx_up σ 4 0 0) 4 1 0) 4 2 0) 4 3 0) 4 4 0) 4 5 0) 4 6 0) 0).bind fun r1 =>
  (zf_Arrays_fill_c1 N r1 0).bind fun r2 =>
  some (r2)
/-- RX3.clear [18] -/
def zf_Names_clear (σ : zS) : Option (zS) :=
  some ((zx_up (zx_up σ 18 3 0) 18 5 0))
/-- RX10.beginThread [29] -/
def zf_Weaver_beginThread (σ : zS) (x1 : Int32) : Option (zS) :=
  some ((zx_up (zx_up (zx_up (zx_up (zx_up (zx_up (zx_up σ 29 8 x1) 29 6 0) 29 7 (-1)) 29 9 0) 29 10 0) 29 11 0) 29 12 (-1)))
def zb_Tokens_advance_33 (σ : zS) (τ : zT) : Option (zS × zT) :=
  if (σ 25 6) < 0 then
    some (σ, τ)
  else
    if 1500 < (σ 25 6) then
      some (σ, τ)
    else
      if 0 ≤ (σ 25 6) ∧ (σ 25 6) < 1501 then
        if 0 ≤ (σ 25 6) ∧ (σ 25 6) < 1501 then
          if 0 ≤ (σ 25 6) ∧ (σ 25 6) < 1501 then
            some ((zx_up (zx_up σ 25 7 (σ 26 (σ 25 6).toNatClampNeg)) 25 8 (σ 27 (σ 25 6).toNatClampNeg)), (zx_up τ 25 9 (τ 28 (σ 25 6).toNatClampNeg)))
          else none
        else none
      else none
/-- RX9.advance [25] -/
def zf_Tokens_advance (σ : zS) (τ : zT) : Option (zS × zT) :=
  if ((σ 25 5) - 1) ≤ (σ 25 6) then
    zb_Tokens_advance_33 σ τ
  else
    if 1500 ≤ (σ 25 6) then
      zb_Tokens_advance_33 σ τ
    else
      zb_Tokens_advance_33 (zx_up σ 25 6 ((σ 25 6) + 1)) τ
def zb_Tokens_byteAt_21 (σ : zS) : Option (Int32) :=
  some ((-1))
/-- RX9.byteAt [25] -/
def zf_Tokens_byteAt (σ : zS) (x1 : Int32) : Option (Int32) :=
  if x1 < 0 then
    zb_Tokens_byteAt_21 σ
  else
    if (σ 25 4) ≤ x1 then
      zb_Tokens_byteAt_21 σ
    else
      if x1 < 1500 then
        if 0 ≤ x1 ∧ x1 < 1500 then
          some (((σ 3 x1.toNatClampNeg) &&& 255))
        else none
      else
        zb_Tokens_byteAt_21 σ
def zb_Tokens_isOfWord_24 (σ : zS) : Option (Int32) :=
  some (1)
def zb_Tokens_isOfWord_12 (σ : zS) (v0 : Int32) : Option (Int32) :=
  if v0 < 48 then
    some (0)
  else
    if 57 < v0 then
      some (0)
    else
      zb_Tokens_isOfWord_24 σ
/-- RX9.isOfWord [] -/
def zf_Tokens_isOfWord (σ : zS) (x1 : Int32) : Option (Int32) :=
  if x1 < 97 then
    zb_Tokens_isOfWord_12 σ x1
  else
    if x1 ≤ 122 then
      zb_Tokens_isOfWord_24 σ
    else
      zb_Tokens_isOfWord_12 σ x1
/-- RX9.isSign [] -/
def zf_Tokens_isSign (σ : zS) (x1 : Int32) : Option (Int32) :=
  if x1 = 43 then
    some (1)
  else
    if x1 = 45 then
      some (1)
    else
      if x1 = 59 then
        some (1)
      else
        if x1 = 60 then
          some (1)
        else
          if x1 = 61 then
            some (1)
          else
            if x1 = 62 then
              some (1)
            else
              if x1 = 123 then
                some (1)
              else
                if x1 = 125 then
                  some (1)
                else
                  some (0)
def zb_Tokens_takeSign_66 (σ : zS) (s0 : Int32) : Option (Int32 × zS) :=
  some (((σ 25 8) + 1), (zx_up σ 25 7 s0))
def zb_Tokens_takeSign_53 (σ : zS) (v1 : Int32) : Option (Int32 × zS) :=
  (zf_Tokens_isSign σ v1).bind fun r4 =>
  if r4 = 0 then
    zb_Tokens_takeSign_66 σ 1
  else
    zb_Tokens_takeSign_66 σ v1
def zb_Tokens_takeSign_43 (σ : zS) (s0 : Int32) : Option (Int32 × zS) :=
  some (((σ 25 8) + 2), (zx_up σ 25 7 s0))
def zb_Tokens_takeSign_12 (σ : zS) (v1 : Int32) : Option (Int32 × zS) :=
  (zf_Tokens_byteAt σ ((σ 25 8) + 1)).bind fun r2 =>
  if ¬ r2 = 61 then
    zb_Tokens_takeSign_53 σ v1
  else
    if ¬ v1 = 61 then
      zb_Tokens_takeSign_43 σ 257
    else
      zb_Tokens_takeSign_43 σ 256
/-- RX9.takeSign [25] -/
def zf_Tokens_takeSign (σ : zS) (x1 : Int32) : Option (Int32 × zS) :=
  if x1 = 61 then
    zb_Tokens_takeSign_12 σ x1
  else
    if ¬ x1 = 33 then
      zb_Tokens_takeSign_53 σ x1
    else
      zb_Tokens_takeSign_12 σ x1
def zb_Tokens_takeWord_108 (k70 : zS → zT → Int32 → Int32 → Option (Int32 × zS × zT)) (N : Nat) (σ : zS) (τ : zT) (v1 : Int32) (v2 : Int32) : Option (Int32 × zS × zT) :=
  k70 σ τ v1 (v2 + 1)
def zb_Tokens_takeWord_70 (N : Nat) : Nat → zS → zT → Int32 → Int32 → Option (Int32 × zS × zT)
  | 0, _, _, _, _ => none
  | n + 1, σ, τ, v1, v2 =>
    if 15 ≤ v2 then
      some (v1, σ, τ)
    else
      if ¬ (σ 25 7) = 3 then
        some (v1, σ, τ)
      else
        if 0 ≤ v2 ∧ v2 < 15 then
          if ¬ (τ 1 v2.toNatClampNeg) = (τ 25 9) then
            zb_Tokens_takeWord_108 (zb_Tokens_takeWord_70 N n) N σ τ v1 v2
          else
            zb_Tokens_takeWord_108 (zb_Tokens_takeWord_70 N n) N (zx_up σ 25 7 (300 + v2)) τ v1 v2
        else none
def zb_Tokens_takeWord_65 (N : Nat) (σ : zS) (τ : zT) (v1 : Int32) (s0 : Int32) : Option (Int32 × zS × zT) :=
  zb_Tokens_takeWord_70 N N (zx_up σ 25 7 s0) τ v1 0
def zb_Tokens_takeWord_48 (N : Nat) (σ : zS) (τ : zT) (v1 : Int32) : Option (Int32 × zS × zT) :=
  if (v1 - (σ 25 8)) ≤ 6 then
    zb_Tokens_takeWord_65 N σ τ v1 3
  else
    zb_Tokens_takeWord_65 N σ τ v1 1
def zb_Tokens_takeWord_5 (N : Nat) : Nat → zS → zT → Int32 → Option (Int32 × zS × zT)
  | 0, _, _, _ => none
  | n + 1, σ, τ, v1 =>
    if (σ 25 4) ≤ v1 then
      zb_Tokens_takeWord_48 N σ τ v1
    else
      (zf_Tokens_byteAt σ v1).bind fun r7 =>
      (zf_Tokens_isOfWord σ r7).bind fun r8 =>
      if r8 = 0 then
        zb_Tokens_takeWord_48 N σ τ v1
      else
        (zf_Tokens_byteAt σ v1).bind fun r10 =>
        zb_Tokens_takeWord_5 N n σ (zx_up τ 25 9 ((zJ_lshl (τ 25 9) 8) ||| (r10 : Int32).toInt64)) (v1 + 1)
/-- RX9.takeWord [25] -/
def zf_Tokens_takeWord (N : Nat) (σ : zS) (τ : zT) : Option (Int32 × zS × zT) :=
  zb_Tokens_takeWord_5 N N σ τ (σ 25 8)
def zb_Tokens_takeNumber_37 (σ : zS) (τ : zT) (s0 : Int32) : Option (Int32 × zS × zT) :=
  some (((σ 25 8) + 1), (zx_up σ 25 7 s0), τ)
def zb_Tokens_takeNumber_32 (σ : zS) (τ : zT) : Option (Int32 × zS × zT) :=
  zb_Tokens_takeNumber_37 σ τ 1
/-- RX9.takeNumber [25] -/
def zf_Tokens_takeNumber (σ : zS) (τ : zT) (x1 : Int32) : Option (Int32 × zS × zT) :=
  if 55 < x1 then
    zb_Tokens_takeNumber_32 σ (zx_up τ 25 9 ((x1 - 48) : Int32).toInt64)
  else
    (zf_Tokens_byteAt σ ((σ 25 8) + 1)).bind fun r2 =>
    (zf_Tokens_isOfWord σ r2).bind fun r3 =>
    if r3 = 0 then
      zb_Tokens_takeNumber_37 σ (zx_up τ 25 9 ((x1 - 48) : Int32).toInt64) 2
    else
      zb_Tokens_takeNumber_32 σ (zx_up τ 25 9 ((x1 - 48) : Int32).toInt64)
def zb_Tokens_isBlank_12 (σ : zS) : Option (Int32) :=
  some (1)
/-- RX9.isBlank [] -/
def zf_Tokens_isBlank (σ : zS) (x1 : Int32) : Option (Int32) :=
  if x1 = 32 then
    zb_Tokens_isBlank_12 σ
  else
    if ¬ x1 = 10 then
      some (0)
    else
      zb_Tokens_isBlank_12 σ
def zb_Tokens_takeToken_43 (N : Nat) (σ : zS) (τ : zT) : Option (Int32 × zS × zT) :=
  (zf_Tokens_byteAt σ (σ 25 8)).bind fun r2 =>
  if ¬ r2 = (-1) then
    (zf_Tokens_isOfWord σ r2).bind fun r4 =>
    if r4 = 0 then
      (zf_Tokens_takeSign σ r2).bind fun r6 =>
      some (r6.1, r6.2, (zx_up τ 25 9 0))
    else
      if 57 < r2 then
        (zf_Tokens_takeWord N σ (zx_up τ 25 9 0)).bind fun r8 =>
        some (r8.1, r8.2.1, r8.2.2)
      else
        (zf_Tokens_takeNumber σ (zx_up τ 25 9 0) r2).bind fun r9 =>
        some (r9.1, r9.2.1, r9.2.2)
  else
    some ((σ 25 8), (zx_up σ 25 7 0), (zx_up τ 25 9 0))
def zb_Tokens_takeToken_5 (N : Nat) : Nat → zS → zT → Option (Int32 × zS × zT)
  | 0, _, _ => none
  | n + 1, σ, τ =>
    if (σ 25 4) ≤ (σ 25 8) then
      zb_Tokens_takeToken_43 N σ τ
    else
      (zf_Tokens_byteAt σ (σ 25 8)).bind fun r10 =>
      (zf_Tokens_isBlank σ r10).bind fun r11 =>
      if r11 = 0 then
        zb_Tokens_takeToken_43 N σ τ
      else
        zb_Tokens_takeToken_5 N n (zx_up σ 25 8 ((σ 25 8) + 1)) τ
/-- RX9.takeToken [25] -/
def zf_Tokens_takeToken (N : Nat) (σ : zS) (τ : zT) (x1 : Int32) : Option (Int32 × zS × zT) :=
  zb_Tokens_takeToken_5 N N (zx_up σ 25 8 x1) τ
def zb_Tokens_scan_93 (N : Nat) (σ : zS) (τ : zT) : Option (zS × zT) :=
  (zf_Tokens_advance (zx_up σ 25 6 (-1)) τ).bind fun r2 =>
  some (r2.1, r2.2)
def zb_Tokens_scan_19 (N : Nat) : Nat → zS → zT → Int32 → Int32 → Option (zS × zT)
  | 0, _, _, _, _ => none
  | n + 1, σ, τ, v2, v3 =>
    if 1500 < v3 then
      zb_Tokens_scan_93 N σ τ
    else
      if (σ 25 7) = 0 then
        zb_Tokens_scan_93 N σ τ
      else
        if (σ 25 7) = 1 then
          zb_Tokens_scan_93 N σ τ
        else
          (zf_Tokens_takeToken N σ τ v2).bind fun r5 =>
          if 0 ≤ v3 ∧ v3 < 1501 then
            if 0 ≤ v3 ∧ v3 < 1501 then
              if 0 ≤ v3 ∧ v3 < 1501 then
                zb_Tokens_scan_19 N n (zx_up (zx_up (zx_up r5.2.1 26 v3.toNatClampNeg (r5.2.1 25 7)) 27 v3.toNatClampNeg (r5.2.1 25 8)) 25 5 ((r5.2.1 25 5) + 1)) (zx_up r5.2.2 28 v3.toNatClampNeg (r5.2.2 25 9)) r5.1 (v3 + 1)
              else none
            else none
          else none
/-- RX9.scan [25] -/
def zf_Tokens_scan (N : Nat) (σ : zS) (τ : zT) (x1 : Int32) : Option (zS × zT) :=
  zb_Tokens_scan_19 N N (zx_up (zx_up (zx_up σ 25 4 x1) 25 5 0) 25 7 3) τ 0 0
def zb_Program_slotOf_34 (σ : zS) (v1 : Int32) (v2 : Int32) (s0 : Int32) : Option (Int32) :=
  if s0 = 0 then
    some (96)
  else
    some (((v1 * 24) + v2))
def zb_Program_slotOf_33 (σ : zS) (v1 : Int32) (v2 : Int32) : Option (Int32) :=
  zb_Program_slotOf_34 σ v1 v2 0
/-- RX6.slotOf [4] -/
def zf_Program_slotOf (σ : zS) (x1 : Int32) (x2 : Int32) : Option (Int32) :=
  if x1 < 0 then
    zb_Program_slotOf_33 σ x1 x2
  else
    if 4 ≤ x1 then
      zb_Program_slotOf_33 σ x1 x2
    else
      if x2 < 0 then
        zb_Program_slotOf_33 σ x1 x2
      else
        if 24 ≤ x2 then
          zb_Program_slotOf_33 σ x1 x2
        else
          if 0 ≤ x1 ∧ x1 < 4 then
            if (σ 5 x1.toNatClampNeg) ≤ x2 then
              zb_Program_slotOf_33 σ x1 x2
            else
              zb_Program_slotOf_34 σ x1 x2 1
          else none
def zb_Names_numberOf_50 (k3 : zS → zT → Int64 → Int32 → Int32 → Option (Int32)) (N : Nat) (σ : zS) (τ : zT) (v1 : Int64) (v3 : Int32) (v4 : Int32) : Option (Int32) :=
  k3 σ τ v1 v3 (v4 + 1)
def zb_Names_numberOf_3 (N : Nat) : Nat → zS → zT → Int64 → Int32 → Int32 → Option (Int32)
  | 0, _, _, _, _, _ => none
  | n + 1, σ, τ, v1, v3, v4 =>
    if (σ 18 3) ≤ v4 then
      some ((-1))
    else
      if 14 ≤ v4 then
        some ((-1))
      else
        if 0 ≤ v4 ∧ v4 < 14 then
          if ¬ (τ 19 v4.toNatClampNeg) = v1 then
            zb_Names_numberOf_50 (zb_Names_numberOf_3 N n) N σ τ v1 v3 v4
          else
            if 0 ≤ v4 ∧ v4 < 14 then
              if ¬ (σ 20 v4.toNatClampNeg) = v3 then
                zb_Names_numberOf_50 (zb_Names_numberOf_3 N n) N σ τ v1 v3 v4
              else
                if 0 ≤ v4 ∧ v4 < 14 then
                  some ((σ 21 v4.toNatClampNeg))
                else none
            else none
        else none
/-- RX3.numberOf [18] -/
def zf_Names_numberOf (N : Nat) (σ : zS) (τ : zT) (x1 : Int64) (x2 : Int32) : Option (Int32) :=
  zb_Names_numberOf_3 N N σ τ x1 x2 0
/-- RX6.setThread [4] -/
def zf_Program_setThread (σ : zS) (x1 : Int32) (x2 : Int32) : Option (zS) :=
  if x1 < 0 then
    some (σ)
  else
    if 96 ≤ x1 then
      some (σ)
    else
      if x2 < 0 then
        some (σ)
      else
        if 4 ≤ x2 then
          some (σ)
        else
          if 0 ≤ x1 ∧ x1 < 97 then
            if 0 ≤ x1 ∧ x1 < 97 then
              if ¬ (σ 7 x1.toNatClampNeg) = 10 then
                some ((zx_up σ 8 x1.toNatClampNeg x2))
              else
                if 0 ≤ x2 ∧ x2 < 4 then
                  if 0 ≤ x2 ∧ x2 < 4 then
                    some ((zx_up (zx_up σ 8 x1.toNatClampNeg x2) 6 x2.toNatClampNeg ((σ 6 x2.toNatClampNeg) ||| (zJ_shl 1 (x1 / 24)))))
                  else none
                else none
            else none
          else none
def zb_Reader_findThread_45 (N : Nat) (σ : zS) (τ : zT) (v2 : Int32) : Option (zS) :=
  if 0 ≤ v2 ∧ v2 < 96 then
    (zf_Names_numberOf N σ τ (τ 23 v2.toNatClampNeg) 2).bind fun r6 =>
    if ¬ r6 = (-1) then
      (zf_Program_setThread σ v2 r6).bind fun r8 =>
      some (r8)
    else
      if 0 ≤ v2 ∧ v2 < 96 then
        some ((zx_up (zx_up σ 17 6 5) 17 7 (σ 24 v2.toNatClampNeg)))
      else none
  else none
/-- RX7.findThread [17] -/
def zf_Reader_findThread (N : Nat) (σ : zS) (τ : zT) (x1 : Int32) : Option (zS) :=
  (zf_Program_slotOf σ (x1 / 24) (zJ_rem x1 24)).bind fun r1 =>
  if 0 ≤ r1 ∧ r1 < 97 then
    if 96 ≤ r1 then
      some (σ)
    else
      if (σ 7 r1.toNatClampNeg) = 10 then
        zb_Reader_findThread_45 N σ τ r1
      else
        if (σ 7 r1.toNatClampNeg) = 11 then
          zb_Reader_findThread_45 N σ τ r1
        else
          some (σ)
  else none
def zb_Reader_failHere_17 (σ : zS) (s0 : Int32) : Option (Int32 × zS) :=
  some (0, (zx_up (zx_up σ 17 6 s0) 17 7 (σ 25 8)))
/-- RX7.failHere [17] -/
def zf_Reader_failHere (σ : zS) (x1 : Int32) : Option (Int32 × zS) :=
  if ¬ (σ 25 7) = 1 then
    zb_Reader_failHere_17 σ x1
  else
    zb_Reader_failHere_17 σ 1
def zb_Names_sortOf_2 (N : Nat) : Nat → zS → zT → Int64 → Int32 → Option (Int32)
  | 0, _, _, _, _ => none
  | n + 1, σ, τ, v1, v3 =>
    if (σ 18 3) ≤ v3 then
      some ((-1))
    else
      if 14 ≤ v3 then
        some ((-1))
      else
        if 0 ≤ v3 ∧ v3 < 14 then
          if ¬ (τ 19 v3.toNatClampNeg) = v1 then
            zb_Names_sortOf_2 N n σ τ v1 (v3 + 1)
          else
            if 0 ≤ v3 ∧ v3 < 14 then
              some ((σ 20 v3.toNatClampNeg))
            else none
        else none
/-- RX3.sortOf [18] -/
def zf_Names_sortOf (N : Nat) (σ : zS) (τ : zT) (x1 : Int64) : Option (Int32) :=
  zb_Names_sortOf_2 N N σ τ x1 0
/-- RX3.tell [18] -/
def zf_Names_tell (σ : zS) (τ : zT) (x1 : Int64) (x2 : Int32) (x3 : Int32) : Option (zS × zT) :=
  if (σ 18 3) < 0 then
    some (σ, τ)
  else
    if 14 ≤ (σ 18 3) then
      some (σ, τ)
    else
      if 0 ≤ (σ 18 3) ∧ (σ 18 3) < 14 then
        if 0 ≤ (σ 18 3) ∧ (σ 18 3) < 14 then
          if 0 ≤ (σ 18 3) ∧ (σ 18 3) < 14 then
            some ((zx_up (zx_up (zx_up σ 20 (σ 18 3).toNatClampNeg x2) 21 (σ 18 3).toNatClampNeg x3) 18 3 ((σ 18 3) + 1)), (zx_up τ 19 (σ 18 3).toNatClampNeg x1))
          else none
        else none
      else none
/-- RX7.tellName [17] -/
def zf_Reader_tellName (N : Nat) (σ : zS) (τ : zT) (x1 : Int32) (x2 : Int32) (x3 : Int32) : Option (Int32 × zS × zT) :=
  if (σ 25 7) = 3 then
    (zf_Names_sortOf N σ τ (τ 25 9)).bind fun r2 =>
    if r2 = (-1) then
      if x2 < x3 then
        (zf_Names_tell σ τ (τ 25 9) x1 x2).bind fun r5 =>
        (zf_Tokens_advance r5.1 r5.2).bind fun r6 =>
        some (1, r6.1, r6.2)
      else
        (zf_Reader_failHere σ 4).bind fun r7 =>
        if r7.1 = 0 ∨ r7.1 = 1 then
          some (r7.1, r7.2, τ)
        else none
    else
      (zf_Reader_failHere σ 3).bind fun r9 =>
      if r9.1 = 0 ∨ r9.1 = 1 then
        some (r9.1, r9.2, τ)
      else none
  else
    (zf_Reader_failHere σ 2).bind fun r11 =>
    if r11.1 = 0 ∨ r11.1 = 1 then
      some (r11.1, r11.2, τ)
    else none
/-- RX3.forgetLocals [18] -/
def zf_Names_forgetLocals (σ : zS) : Option (zS) :=
  some ((zx_up σ 18 5 0))
/-- RX7.expect [17] -/
def zf_Reader_expect (σ : zS) (τ : zT) (x1 : Int32) : Option (Int32 × zS × zT) :=
  if (σ 25 7) = x1 then
    (zf_Tokens_advance σ τ).bind fun r2 =>
    some (1, r2.1, r2.2)
  else
    (zf_Reader_failHere σ 2).bind fun r3 =>
    if r3.1 = 0 ∨ r3.1 = 1 then
      some (r3.1, r3.2, τ)
    else none
/-- RX10.enter [29] -/
def zf_Weaver_enter (σ : zS) (x1 : Int32) (x2 : Int32) : Option (zS) :=
  if (σ 29 6) < 0 then
    some (σ)
  else
    if (σ 29 6) < 8 then
      if 0 ≤ (σ 29 6) ∧ (σ 29 6) < 8 then
        if 0 ≤ (σ 29 6) ∧ (σ 29 6) < 8 then
          if 0 ≤ (σ 29 6) ∧ (σ 29 6) < 8 then
            if 0 ≤ (σ 29 6) ∧ (σ 29 6) < 8 then
              if 0 ≤ (σ 29 6) ∧ (σ 29 6) < 8 then
                if ¬ x1 = 1 then
                  if ¬ x1 = 2 then
                    some ((zx_up (zx_up (zx_up (zx_up (zx_up (zx_up σ 30 (σ 29 6).toNatClampNeg x1) 31 (σ 29 6).toNatClampNeg x2) 32 (σ 29 6).toNatClampNeg 0) 33 (σ 29 6).toNatClampNeg 0) 34 (σ 29 6).toNatClampNeg (σ 29 11)) 29 6 ((σ 29 6) + 1)))
                  else
                    some ((zx_up (zx_up (zx_up (zx_up (zx_up (zx_up (zx_up (zx_up σ 30 (σ 29 6).toNatClampNeg x1) 31 (σ 29 6).toNatClampNeg x2) 32 (σ 29 6).toNatClampNeg 0) 33 (σ 29 6).toNatClampNeg 0) 34 (σ 29 6).toNatClampNeg (σ 29 11)) 29 6 ((σ 29 6) + 1)) 29 12 (σ 4 3)) 4 3 ((σ 4 3) + 1)))
                else
                  some ((zx_up (zx_up (zx_up (zx_up (zx_up (zx_up (zx_up σ 30 (σ 29 6).toNatClampNeg x1) 31 (σ 29 6).toNatClampNeg x2) 32 (σ 29 6).toNatClampNeg 0) 33 (σ 29 6).toNatClampNeg 0) 34 (σ 29 6).toNatClampNeg (σ 29 11)) 29 6 ((σ 29 6) + 1)) 29 11 ((σ 29 11) ||| (zJ_shl 1 x2))))
              else none
            else none
          else none
        else none
      else none
    else
      some (σ)
def zb_Reader_openBlock_33 (σ : zS) (τ : zT) (v1 : Int32) (v2 : Int32) : Option (zS × zT) :=
  (zf_Reader_expect σ τ 123).bind fun r2 =>
  if r2.1 = 0 then
    some (r2.2.1, r2.2.2)
  else
    (zf_Weaver_enter r2.2.1 v1 v2).bind fun r4 =>
    some (r4, r2.2.2)
/-- RX7.openBlock [17] -/
def zf_Reader_openBlock (σ : zS) (τ : zT) (x1 : Int32) (x2 : Int32) : Option (zS × zT) :=
  if ¬ (σ 25 7) = 123 then
    zb_Reader_openBlock_33 σ τ x1 x2
  else
    if (σ 29 6) < 8 then
      zb_Reader_openBlock_33 σ τ x1 x2
    else
      (zf_Reader_failHere σ 4).bind fun r6 =>
      some (r6.2, τ)
/-- RX7.tellThread [17] -/
def zf_Reader_tellThread (N : Nat) (σ : zS) (τ : zT) : Option (zS × zT) :=
  (zf_Tokens_advance σ τ).bind fun r1 =>
  (zf_Reader_tellName N r1.1 r1.2 2 (r1.1 4 2) 4).bind fun r2 =>
  if r2.1 = 0 then
    some (r2.2.1, r2.2.2)
  else
    (zf_Names_forgetLocals r2.2.1).bind fun r4 =>
    (zf_Weaver_beginThread r4 (r4 4 2)).bind fun r5 =>
    (zf_Reader_openBlock (zx_up r5 4 2 ((r5 4 2) + 1)) r2.2.2 0 (-1)).bind fun r6 =>
    some (r6.1, r6.2)
/-- RX7.tellLock [17] -/
def zf_Reader_tellLock (N : Nat) (σ : zS) (τ : zT) : Option (zS × zT) :=
  (zf_Tokens_advance σ τ).bind fun r1 =>
  (zf_Reader_tellName N r1.1 r1.2 1 (r1.1 4 1) 4).bind fun r2 =>
  if r2.1 = 0 then
    some (r2.2.1, r2.2.2)
  else
    (zf_Reader_expect r2.2.1 r2.2.2 59).bind fun r4 =>
    if r4.1 = 0 then
      some (r4.2.1, r4.2.2)
    else
      some ((zx_up r4.2.1 4 1 ((r4.2.1 4 1) + 1)), r4.2.2)
def zb_Program_addField_36 (σ : zS) : Option (zS) :=
  some ((zx_up σ 4 0 ((σ 4 0) + 1)))
/-- RX6.addField [4] -/
def zf_Program_addField (σ : zS) (x1 : Int32) (x2 : Int32) : Option (zS) :=
  if x2 = 0 then
    zb_Program_addField_36 (zx_up σ 4 5 ((σ 4 5) ||| (zJ_shl x1 (3 * (σ 4 0)))))
  else
    zb_Program_addField_36 (zx_up (zx_up σ 4 5 ((σ 4 5) ||| (zJ_shl x1 (3 * (σ 4 0))))) 4 6 ((σ 4 6) ||| (zJ_shl 1 (σ 4 0))))
def zb_Reader_tellField_64 (N : Nat) (σ : zS) (τ : zT) (v1 : Int32) (v2 : Int32) : Option (zS × zT) :=
  (zf_Reader_expect σ τ 59).bind fun r5 =>
  if r5.1 = 0 then
    some (r5.2.1, r5.2.2)
  else
    (zf_Program_addField r5.2.1 v2 v1).bind fun r7 =>
    some (r7, r5.2.2)
/-- RX7.tellField [17] -/
def zf_Reader_tellField (N : Nat) (σ : zS) (τ : zT) (x1 : Int32) : Option (zS × zT) :=
  (zf_Tokens_advance σ τ).bind fun r1 =>
  (zf_Reader_tellName N r1.1 r1.2 0 (r1.1 4 0) 6).bind fun r2 =>
  if ¬ r2.1 = 0 then
    if ¬ (r2.2.1 25 7) = 61 then
      zb_Reader_tellField_64 N r2.2.1 r2.2.2 x1 0
    else
      (zf_Tokens_advance r2.2.1 r2.2.2).bind fun r8 =>
      (zf_Reader_expect r8.1 r8.2 2).bind fun r9 =>
      if ¬ r9.1 = 0 then
        zb_Reader_tellField_64 N r9.2.1 r9.2.2 x1 ((r8.2 25 9) : Int64).toInt32
      else
        some (r9.2.1, r9.2.2)
  else
    some (r2.2.1, r2.2.2)
def zb_Reader_readTelling_79 (N : Nat) (σ : zS) (τ : zT) (v1 : Int32) : Option (zS × zT) :=
  if ¬ v1 = 303 then
    (zf_Reader_failHere σ 2).bind fun r5 =>
    some (r5.2, τ)
  else
    (zf_Reader_tellThread N σ τ).bind fun r6 =>
    some (r6.1, r6.2)
def zb_Reader_readTelling_61 (N : Nat) (σ : zS) (τ : zT) (v1 : Int32) (v2 : Int32) : Option (zS × zT) :=
  if v2 = 0 then
    zb_Reader_readTelling_79 N σ τ v1
  else
    if ¬ v1 = 302 then
      zb_Reader_readTelling_79 N σ τ v1
    else
      (zf_Reader_tellLock N σ τ).bind fun r8 =>
      some (r8.1, r8.2)
def zb_Reader_readTelling_55 (N : Nat) (σ : zS) (τ : zT) (s0 : Int32) : Option (zS × zT) :=
  (zf_Reader_tellField N σ τ s0).bind fun r11 =>
  some (r11.1, r11.2)
def zb_Reader_readTelling_42 (N : Nat) (σ : zS) (τ : zT) (v1 : Int32) : Option (zS × zT) :=
  if ¬ v1 = 301 then
    zb_Reader_readTelling_55 N σ τ 0
  else
    zb_Reader_readTelling_55 N σ τ 1
def zb_Reader_readTelling_23 (N : Nat) (σ : zS) (τ : zT) (v1 : Int32) (s0 : Int32) : Option (zS × zT) :=
  if s0 = 0 then
    zb_Reader_readTelling_61 N σ τ v1 s0
  else
    if v1 = 300 then
      zb_Reader_readTelling_42 N σ τ v1
    else
      if ¬ v1 = 301 then
        zb_Reader_readTelling_61 N σ τ v1 s0
      else
        zb_Reader_readTelling_42 N σ τ v1
/-- RX7.readTelling [17] -/
def zf_Reader_readTelling (N : Nat) (σ : zS) (τ : zT) : Option (zS × zT) :=
  if ¬ (σ 4 2) = 0 then
    zb_Reader_readTelling_23 N σ τ (σ 25 7) 0
  else
    zb_Reader_readTelling_23 N σ τ (σ 25 7) 1
/-- RX10.isInSpan [29] -/
def zf_Weaver_isInSpan (σ : zS) : Option (Int32) :=
  if (σ 29 12) = (-1) then
    some (0)
  else
    some (1)
/-- RX7.readSpan [17] -/
def zf_Reader_readSpan (σ : zS) (τ : zT) : Option (zS × zT) :=
  (zf_Weaver_isInSpan σ).bind fun r1 =>
  if r1 = 0 then
    if (σ 4 3) < 6 then
      (zf_Tokens_advance σ τ).bind fun r4 =>
      (zf_Reader_openBlock r4.1 r4.2 2 (-1)).bind fun r5 =>
      some (r5.1, r5.2)
    else
      (zf_Reader_failHere σ 4).bind fun r6 =>
      some (r6.2, τ)
  else
    (zf_Reader_failHere σ 2).bind fun r7 =>
    some (r7.2, τ)
/-- RX6.lengthOf [4] -/
def zf_Program_lengthOf (σ : zS) (x1 : Int32) : Option (Int32) :=
  if x1 < 0 then
    some (0)
  else
    if 4 ≤ x1 then
      some (0)
    else
      if 0 ≤ x1 ∧ x1 < 4 then
        some ((σ 5 x1.toNatClampNeg))
      else none
/-- RX10.hasRoom [29] -/
def zf_Weaver_hasRoom (σ : zS) : Option (Int32) :=
  (zf_Program_lengthOf σ (σ 29 8)).bind fun r1 =>
  if 24 ≤ r1 then
    some (0)
  else
    some (1)
def zb_Reader_hasRoomForStep_18 (σ : zS) : Option (Int32 × zS) :=
  some (1, σ)
/-- RX7.hasRoomForStep [17] -/
def zf_Reader_hasRoomForStep (σ : zS) : Option (Int32 × zS) :=
  (zf_Weaver_hasRoom σ).bind fun r1 =>
  if ¬ r1 = 0 then
    zb_Reader_hasRoomForStep_18 σ
  else
    (zf_Reader_failHere σ 4).bind fun r3 =>
    if r3.1 = 0 then
      some (0, r3.2)
    else
      zb_Reader_hasRoomForStep_18 r3.2
def zb_Weaver_closeOpen_70 (k2 : zS → Int32 → Int32 → Option (zS)) (N : Nat) (σ : zS) (v1 : Int32) (v2 : Int32) : Option (zS) :=
  k2 σ v1 (v2 + 1)
def zb_Weaver_closeOpen_49 (k2 : zS → Int32 → Int32 → Option (zS)) (N : Nat) (σ : zS) (v1 : Int32) (v2 : Int32) (v3 : Int32) : Option (zS) :=
  if ((zJ_ushr (σ 29 10) v2) &&& 1) = 0 then
    zb_Weaver_closeOpen_70 k2 N σ v1 v2
  else
    if 0 ≤ v3 ∧ v3 < 97 then
      zb_Weaver_closeOpen_70 k2 N (zx_up σ 10 v3.toNatClampNeg v1) v1 v2
    else none
def zb_Weaver_closeOpen_2 (N : Nat) : Nat → zS → Int32 → Int32 → Option (zS)
  | 0, _, _, _ => none
  | n + 1, σ, v1, v2 =>
    if 24 ≤ v2 then
      some ((zx_up (zx_up σ 29 9 0) 29 10 0))
    else
      if (((σ 29 8) * 24) + v2) < 0 then
        zb_Weaver_closeOpen_70 (zb_Weaver_closeOpen_2 N n) N σ v1 v2
      else
        if 96 ≤ (((σ 29 8) * 24) + v2) then
          zb_Weaver_closeOpen_70 (zb_Weaver_closeOpen_2 N n) N σ v1 v2
        else
          if ((zJ_ushr (σ 29 9) v2) &&& 1) = 0 then
            zb_Weaver_closeOpen_49 (zb_Weaver_closeOpen_2 N n) N σ v1 v2 (((σ 29 8) * 24) + v2)
          else
            if 0 ≤ (((σ 29 8) * 24) + v2) ∧ (((σ 29 8) * 24) + v2) < 97 then
              zb_Weaver_closeOpen_49 (zb_Weaver_closeOpen_2 N n) N (zx_up σ 9 (((σ 29 8) * 24) + v2).toNatClampNeg v1) v1 v2 (((σ 29 8) * 24) + v2)
            else none
/-- RX10.closeOpen [29] -/
def zf_Weaver_closeOpen (N : Nat) (σ : zS) (x1 : Int32) : Option (zS) :=
  zb_Weaver_closeOpen_2 N N σ x1 0
/-- RX6.addStep [4] -/
def zf_Program_addStep (σ : zS) (x1 : Int32) (x2 : Int32) (x3 : Int32) (x4 : Int32) (x5 : Int32) : Option (Int32 × zS) :=
  if x1 < 0 then
    some ((-1), σ)
  else
    if 4 ≤ x1 then
      some ((-1), σ)
    else
      if 0 ≤ x1 ∧ x1 < 4 then
        if (σ 5 x1.toNatClampNeg) < 0 then
          some ((-1), σ)
        else
          if 0 ≤ x1 ∧ x1 < 4 then
            if (σ 5 x1.toNatClampNeg) < 24 then
              if 0 ≤ x1 ∧ x1 < 4 then
                if 0 ≤ x1 ∧ x1 < 4 then
                  if 0 ≤ x1 ∧ x1 < 4 then
                    if 0 ≤ ((x1 * 24) + (σ 5 x1.toNatClampNeg)) ∧ ((x1 * 24) + (σ 5 x1.toNatClampNeg)) < 97 then
                      if 0 ≤ ((x1 * 24) + (σ 5 x1.toNatClampNeg)) ∧ ((x1 * 24) + (σ 5 x1.toNatClampNeg)) < 97 then
                        if 0 ≤ ((x1 * 24) + (σ 5 x1.toNatClampNeg)) ∧ ((x1 * 24) + (σ 5 x1.toNatClampNeg)) < 97 then
                          if 0 ≤ ((x1 * 24) + (σ 5 x1.toNatClampNeg)) ∧ ((x1 * 24) + (σ 5 x1.toNatClampNeg)) < 97 then
                            if 0 ≤ ((x1 * 24) + (σ 5 x1.toNatClampNeg)) ∧ ((x1 * 24) + (σ 5 x1.toNatClampNeg)) < 97 then
                              if 0 ≤ ((x1 * 24) + (σ 5 x1.toNatClampNeg)) ∧ ((x1 * 24) + (σ 5 x1.toNatClampNeg)) < 97 then
                                some ((σ 5 x1.toNatClampNeg), (zx_up (zx_up (zx_up (zx_up (zx_up (zx_up (zx_up (zx_up σ 5 x1.toNatClampNeg ((σ 5 x1.toNatClampNeg) + 1)) 4 4 ((σ 4 4) + 1)) 7 ((x1 * 24) + (σ 5 x1.toNatClampNeg)).toNatClampNeg x2) 8 ((x1 * 24) + (σ 5 x1.toNatClampNeg)).toNatClampNeg x3) 11 ((x1 * 24) + (σ 5 x1.toNatClampNeg)).toNatClampNeg x4) 12 ((x1 * 24) + (σ 5 x1.toNatClampNeg)).toNatClampNeg x5) 9 ((x1 * 24) + (σ 5 x1.toNatClampNeg)).toNatClampNeg (-1)) 10 ((x1 * 24) + (σ 5 x1.toNatClampNeg)).toNatClampNeg (-1)))
                              else none
                            else none
                          else none
                        else none
                      else none
                    else none
                  else none
                else none
              else none
            else
              some ((-1), σ)
          else none
      else none
def zb_Weaver_emit_59 (N : Nat) (σ : zS) (s0 : Int32) : Option (zS) :=
  some ((zx_up σ 29 9 s0))
/-- RX10.emit [29] -/
def zf_Weaver_emit (N : Nat) (σ : zS) (x1 : Int32) (x2 : Int32) : Option (zS) :=
  (zf_Program_lengthOf σ (σ 29 8)).bind fun r1 =>
  (zf_Weaver_closeOpen N σ r1).bind fun r2 =>
  (zf_Program_addStep r2 (r2 29 8) x1 x2 (r2 29 11) (r2 29 12)).bind fun r3 =>
  if ¬ r3.1 = (-1) then
    zb_Weaver_emit_59 N (zx_up r3.2 29 7 r3.1) (zJ_shl 1 r3.1)
  else
    zb_Weaver_emit_59 N (zx_up r3.2 29 7 r3.1) 0
/-- RX7.readStop [17] -/
def zf_Reader_readStop (N : Nat) (σ : zS) (τ : zT) : Option (zS × zT) :=
  (zf_Reader_hasRoomForStep σ).bind fun r1 =>
  if r1.1 = 0 then
    some (r1.2, τ)
  else
    (zf_Tokens_advance r1.2 τ).bind fun r3 =>
    (zf_Weaver_emit N r3.1 13 (-1)).bind fun r4 =>
    (zf_Reader_expect r4 r3.2 59).bind fun r5 =>
    some (r5.2.1, r5.2.2)
def zb_Names_localOf_2 (N : Nat) : Nat → zS → zT → Int64 → Int32 → Option (Int32)
  | 0, _, _, _, _ => none
  | n + 1, σ, τ, v1, v3 =>
    if (σ 18 5) ≤ v3 then
      some ((-1))
    else
      if 3 ≤ v3 then
        some ((-1))
      else
        if 0 ≤ v3 ∧ v3 < 3 then
          if ¬ (τ 22 v3.toNatClampNeg) = v1 then
            zb_Names_localOf_2 N n σ τ v1 (v3 + 1)
          else
            some (v3)
        else none
/-- RX3.localOf [18] -/
def zf_Names_localOf (N : Nat) (σ : zS) (τ : zT) (x1 : Int64) : Option (Int32) :=
  zb_Names_localOf_2 N N σ τ x1 0
def zb_Reader_failAtWrongToken_63 (N : Nat) (σ : zS) (τ : zT) (s0 : Int32) : Option (zS) :=
  (zf_Reader_failHere σ s0).bind fun r3 =>
  some (r3.2)
def zb_Reader_failAtWrongToken_52 (N : Nat) (σ : zS) (τ : zT) (s0 : Int32) : Option (zS) :=
  if s0 = 0 then
    zb_Reader_failAtWrongToken_63 N σ τ 2
  else
    zb_Reader_failAtWrongToken_63 N σ τ 3
def zb_Reader_failAtWrongToken_51 (N : Nat) (σ : zS) (τ : zT) : Option (zS) :=
  zb_Reader_failAtWrongToken_52 N σ τ 0
/-- RX7.failAtWrongToken [17] -/
def zf_Reader_failAtWrongToken (N : Nat) (σ : zS) (τ : zT) : Option (zS) :=
  if ¬ (σ 25 7) = 3 then
    zb_Reader_failAtWrongToken_51 N σ τ
  else
    (zf_Names_sortOf N σ τ (τ 25 9)).bind fun r4 =>
    if ¬ r4 = (-1) then
      zb_Reader_failAtWrongToken_51 N σ τ
    else
      (zf_Names_localOf N σ τ (τ 25 9)).bind fun r6 =>
      if ¬ r6 = (-1) then
        zb_Reader_failAtWrongToken_51 N σ τ
      else
        zb_Reader_failAtWrongToken_52 N σ τ 1
def zb_Reader_takeTestValue_72 (N : Nat) (σ : zS) (τ : zT) (s0 : Int32) : Option (Int32 × zS × zT) :=
  (zf_Tokens_advance σ τ).bind fun r4 =>
  some (s0, r4.1, r4.2)
def zb_Reader_takeTestValue_52 (N : Nat) (σ : zS) (τ : zT) (v1 : Int32) : Option (Int32 × zS × zT) :=
  if ¬ v1 = (-1) then
    zb_Reader_takeTestValue_72 N σ τ (8 + v1)
  else
    zb_Reader_takeTestValue_72 N σ τ ((τ 25 9) : Int64).toInt32
def zb_Reader_takeTestValue_29 (N : Nat) (σ : zS) (τ : zT) (s0 : Int32) : Option (Int32 × zS × zT) :=
  if ¬ s0 = (-1) then
    zb_Reader_takeTestValue_52 N σ τ s0
  else
    if (σ 25 7) = 2 then
      zb_Reader_takeTestValue_52 N σ τ s0
    else
      (zf_Reader_failAtWrongToken N σ τ).bind fun r6 =>
      some ((-1), r6, τ)
/-- RX7.takeTestValue [17] -/
def zf_Reader_takeTestValue (N : Nat) (σ : zS) (τ : zT) : Option (Int32 × zS × zT) :=
  if ¬ (σ 25 7) = 3 then
    zb_Reader_takeTestValue_29 N σ τ (-1)
  else
    (zf_Names_localOf N σ τ (τ 25 9)).bind fun r7 =>
    zb_Reader_takeTestValue_29 N σ τ r7
/-- RX10.work [29] -/
def zf_Weaver_work (σ : zS) (x1 : Int32) (x2 : Int32) (x3 : Int32) (x4 : Int32) : Option (zS) :=
  (zf_Program_slotOf σ (σ 29 8) (σ 29 7)).bind fun r1 =>
  if 0 ≤ r1 ∧ r1 < 97 then
    if 0 ≤ r1 ∧ r1 < 97 then
      if 0 ≤ r1 ∧ r1 < 97 then
        if 0 ≤ r1 ∧ r1 < 97 then
          some ((zx_up (zx_up (zx_up (zx_up σ 13 r1.toNatClampNeg x1) 14 r1.toNatClampNeg x2) 15 r1.toNatClampNeg x3) 16 r1.toNatClampNeg x4))
        else none
      else none
    else none
  else none
def zb_Reader_readTest_52 (N : Nat) (σ : zS) (τ : zT) (v1 : Int32) (v2 : Int32) (v3 : Int32) : Option (Int32 × zS × zT) :=
  (zf_Tokens_advance σ τ).bind fun r4 =>
  (zf_Reader_takeTestValue N r4.1 r4.2).bind fun r5 =>
  if ¬ r5.1 = (-1) then
    (zf_Weaver_emit N r5.2.1 v1 (-1)).bind fun r7 =>
    (zf_Weaver_work r7 (-1) v2 v3 r5.1).bind fun r8 =>
    some (1, r8, r5.2.2)
  else
    some (0, r5.2.1, r5.2.2)
/-- RX7.readTest [17] -/
def zf_Reader_readTest (N : Nat) (σ : zS) (τ : zT) (x1 : Int32) : Option (Int32 × zS × zT) :=
  (zf_Reader_takeTestValue N σ τ).bind fun r1 =>
  if ¬ r1.1 = (-1) then
    if (r1.2.1 25 7) = 256 then
      zb_Reader_readTest_52 N r1.2.1 r1.2.2 x1 r1.1 (r1.2.1 25 7)
    else
      if (r1.2.1 25 7) = 257 then
        zb_Reader_readTest_52 N r1.2.1 r1.2.2 x1 r1.1 (r1.2.1 25 7)
      else
        if (r1.2.1 25 7) = 60 then
          zb_Reader_readTest_52 N r1.2.1 r1.2.2 x1 r1.1 (r1.2.1 25 7)
        else
          if (r1.2.1 25 7) = 62 then
            zb_Reader_readTest_52 N r1.2.1 r1.2.2 x1 r1.1 (r1.2.1 25 7)
          else
            (zf_Reader_failHere r1.2.1 2).bind fun r12 =>
            if r12.1 = 0 ∨ r12.1 = 1 then
              some (r12.1, r12.2, r1.2.2)
            else none
  else
    some (0, r1.2.1, r1.2.2)
/-- RX7.readCheck [17] -/
def zf_Reader_readCheck (N : Nat) (σ : zS) (τ : zT) : Option (zS × zT) :=
  (zf_Reader_hasRoomForStep σ).bind fun r1 =>
  if r1.1 = 0 then
    some (r1.2, τ)
  else
    (zf_Tokens_advance r1.2 τ).bind fun r3 =>
    (zf_Reader_readTest N r3.1 r3.2 12).bind fun r4 =>
    if r4.1 = 0 then
      some (r4.2.1, r4.2.2)
    else
      (zf_Reader_expect r4.2.1 r4.2.2 59).bind fun r6 =>
      some (r6.2.1, r6.2.2)
def zb_Reader_readThreadStep_126 (N : Nat) (σ : zS) (τ : zT) : Option (zS × zT) :=
  (zf_Tokens_advance σ τ).bind fun r11 =>
  (zf_Reader_expect r11.1 r11.2 59).bind fun r12 =>
  some (r12.2.1, r12.2.2)
def zb_Reader_readThreadStep_54 (N : Nat) (σ : zS) (τ : zT) : Option (zS × zT) :=
  (zf_Reader_failHere σ 2).bind fun r6 =>
  some (r6.2, τ)
def zb_Reader_readThreadStep_44 (N : Nat) (σ : zS) (τ : zT) (v1 : Int32) (s0 : Int32) : Option (zS × zT) :=
  if s0 = 0 then
    zb_Reader_readThreadStep_54 N σ τ
  else
    if ¬ s0 = 1 then
      (zf_Weaver_emit N σ v1 (-1)).bind fun r8 =>
      (zf_Program_slotOf r8 ((r8 4 2) - 1) (r8 29 7)).bind fun r9 =>
      if 96 ≤ r9 then
        zb_Reader_readThreadStep_126 N r8 τ
      else
        if 0 ≤ r9 ∧ r9 < 96 then
          if 0 ≤ r9 ∧ r9 < 96 then
            zb_Reader_readThreadStep_126 N (zx_up r8 24 r9.toNatClampNeg (r8 25 8)) (zx_up τ 23 r9.toNatClampNeg (τ 25 9))
          else none
        else none
    else
      zb_Reader_readThreadStep_54 N σ τ
/-- RX7.readThreadStep [17] -/
def zf_Reader_readThreadStep (N : Nat) (σ : zS) (τ : zT) (x1 : Int32) : Option (zS × zT) :=
  (zf_Reader_hasRoomForStep σ).bind fun r1 =>
  if ¬ r1.1 = 0 then
    (zf_Tokens_advance r1.2 τ).bind fun r3 =>
    if ¬ (r3.1 25 7) = 3 then
      zb_Reader_readThreadStep_44 N r3.1 r3.2 x1 0
    else
      (zf_Names_sortOf N r3.1 r3.2 (r3.2 25 9)).bind fun r15 =>
      zb_Reader_readThreadStep_44 N r3.1 r3.2 x1 r15
  else
    some (r1.2, τ)
def zb_Reader_takeLockName_30 (N : Nat) (σ : zS) (τ : zT) (s0 : Int32) : Option (Int32 × zS × zT) :=
  if s0 = (-1) then
    (zf_Reader_failAtWrongToken N σ τ).bind fun r3 =>
    some ((-1), r3, τ)
  else
    (zf_Tokens_advance σ τ).bind fun r4 =>
    some (s0, r4.1, r4.2)
/-- RX7.takeLockName [17] -/
def zf_Reader_takeLockName (N : Nat) (σ : zS) (τ : zT) : Option (Int32 × zS × zT) :=
  if ¬ (σ 25 7) = 3 then
    zb_Reader_takeLockName_30 N σ τ (-1)
  else
    (zf_Names_numberOf N σ τ (τ 25 9) 1).bind fun r5 =>
    zb_Reader_takeLockName_30 N σ τ r5
def zb_Reader_readSignal_75 (N : Nat) (σ : zS) (τ : zT) (v3 : Int32) (s0 : Int32) : Option (zS × zT) :=
  (zf_Weaver_emit N σ s0 v3).bind fun r9 =>
  (zf_Reader_expect r9 τ 59).bind fun r10 =>
  some (r10.2.1, r10.2.2)
def zb_Reader_readSignal_51 (N : Nat) (σ : zS) (τ : zT) (v1 : Int32) (v2 : Int32) : Option (zS × zT) :=
  (zf_Reader_takeLockName N σ τ).bind fun r6 =>
  if r6.1 = (-1) then
    some (r6.2.1, r6.2.2)
  else
    if v2 = 0 then
      zb_Reader_readSignal_75 N r6.2.1 r6.2.2 r6.1 v1
    else
      zb_Reader_readSignal_75 N r6.2.1 r6.2.2 r6.1 9
def zb_Reader_readSignal_39 (N : Nat) (σ : zS) (τ : zT) (v1 : Int32) (s0 : Int32) : Option (zS × zT) :=
  if s0 = 0 then
    zb_Reader_readSignal_51 N σ τ v1 s0
  else
    (zf_Tokens_advance σ τ).bind fun r11 =>
    zb_Reader_readSignal_51 N r11.1 r11.2 v1 s0
def zb_Reader_readSignal_38 (N : Nat) (σ : zS) (τ : zT) (v1 : Int32) : Option (zS × zT) :=
  zb_Reader_readSignal_39 N σ τ v1 0
/-- RX7.readSignal [17] -/
def zf_Reader_readSignal (N : Nat) (σ : zS) (τ : zT) (x1 : Int32) : Option (zS × zT) :=
  (zf_Reader_hasRoomForStep σ).bind fun r1 =>
  if ¬ r1.1 = 0 then
    (zf_Tokens_advance r1.2 τ).bind fun r3 =>
    if ¬ x1 = 8 then
      zb_Reader_readSignal_38 N r3.1 r3.2 x1
    else
      if ¬ (r3.1 25 7) = 309 then
        zb_Reader_readSignal_38 N r3.1 r3.2 x1
      else
        zb_Reader_readSignal_39 N r3.1 r3.2 x1 1
  else
    some (r1.2, τ)
/-- RX7.readBranch [17] -/
def zf_Reader_readBranch (N : Nat) (σ : zS) (τ : zT) (x1 : Int32) (x2 : Int32) : Option (zS × zT) :=
  (zf_Reader_hasRoomForStep σ).bind fun r1 =>
  if r1.1 = 0 then
    some (r1.2, τ)
  else
    (zf_Tokens_advance r1.2 τ).bind fun r3 =>
    (zf_Reader_readTest N r3.1 r3.2 x1).bind fun r4 =>
    if r4.1 = 0 then
      some (r4.2.1, r4.2.2)
    else
      (zf_Reader_openBlock r4.2.1 r4.2.2 x2 (r4.2.1 29 7)).bind fun r6 =>
      some (r6.1, r6.2)
/-- RX7.readLock [17] -/
def zf_Reader_readLock (N : Nat) (σ : zS) (τ : zT) : Option (zS × zT) :=
  (zf_Reader_hasRoomForStep σ).bind fun r1 =>
  if r1.1 = 0 then
    some (r1.2, τ)
  else
    (zf_Tokens_advance r1.2 τ).bind fun r3 =>
    (zf_Reader_takeLockName N r3.1 r3.2).bind fun r4 =>
    if r4.1 = (-1) then
      some (r4.2.1, r4.2.2)
    else
      (zf_Weaver_emit N r4.2.1 3 r4.1).bind fun r6 =>
      (zf_Reader_openBlock r6 r4.2.2 1 r4.1).bind fun r7 =>
      some (r7.1, r7.2)
/-- RX10.innermost [29] -/
def zf_Weaver_innermost (σ : zS) : Option (Int32) :=
  if (σ 29 6) ≤ 0 then
    some ((-1))
  else
    if 8 < (σ 29 6) then
      some ((-1))
    else
      if 0 ≤ ((σ 29 6) - 1) ∧ ((σ 29 6) - 1) < 8 then
        some ((σ 30 ((σ 29 6) - 1).toNatClampNeg))
      else none
def zb_Weaver_finishThread_67 (k19 : zS → Int32 → Int32 → Option (zS)) (N : Nat) (σ : zS) (v1 : Int32) (v2 : Int32) : Option (zS) :=
  k19 σ v1 (v2 + 1)
def zb_Weaver_finishThread_19 (N : Nat) : Nat → zS → Int32 → Int32 → Option (zS)
  | 0, _, _, _ => none
  | n + 1, σ, v1, v2 =>
    if v1 ≤ v2 then
      some (σ)
    else
      if 24 ≤ v2 then
        some (σ)
      else
        (zf_Program_slotOf σ (σ 29 8) v2).bind fun r5 =>
        if 0 ≤ r5 ∧ r5 < 97 then
          if ¬ (σ 7 r5.toNatClampNeg) = 13 then
            zb_Weaver_finishThread_67 (zb_Weaver_finishThread_19 N n) N σ v1 v2
          else
            if 0 ≤ r5 ∧ r5 < 97 then
              zb_Weaver_finishThread_67 (zb_Weaver_finishThread_19 N n) N (zx_up σ 9 r5.toNatClampNeg v1) v1 v2
            else none
        else none
/-- RX10.finishThread [29] -/
def zf_Weaver_finishThread (N : Nat) (σ : zS) : Option (zS) :=
  (zf_Program_lengthOf σ (σ 29 8)).bind fun r1 =>
  (zf_Weaver_closeOpen N σ r1).bind fun r2 =>
  zb_Weaver_finishThread_19 N N r2 r1 0
def zb_Weaver_leave_166 (N : Nat) (σ : zS) (v1 : Int32) : Option (zS) :=
  some ((zx_up σ 29 6 v1))
/-- RX10.leave [29] -/
def zf_Weaver_leave (N : Nat) (σ : zS) : Option (zS) :=
  if (σ 29 6) ≤ 0 then
    some (σ)
  else
    if (σ 29 6) ≤ 8 then
      if 0 ≤ ((σ 29 6) - 1) ∧ ((σ 29 6) - 1) < 8 then
        if 0 ≤ ((σ 29 6) - 1) ∧ ((σ 29 6) - 1) < 8 then
          if (σ 30 ((σ 29 6) - 1).toNatClampNeg) = 0 then
            (zf_Weaver_finishThread N σ).bind fun r15 =>
            zb_Weaver_leave_166 N r15 ((σ 29 6) - 1)
          else
            if (σ 30 ((σ 29 6) - 1).toNatClampNeg) = 1 then
              (zf_Weaver_emit N σ 4 (σ 31 ((σ 29 6) - 1).toNatClampNeg)).bind fun r13 =>
              if 0 ≤ ((σ 29 6) - 1) ∧ ((σ 29 6) - 1) < 8 then
                zb_Weaver_leave_166 N (zx_up r13 29 11 (r13 34 ((σ 29 6) - 1).toNatClampNeg)) ((σ 29 6) - 1)
              else none
            else
              if (σ 30 ((σ 29 6) - 1).toNatClampNeg) = 2 then
                zb_Weaver_leave_166 N (zx_up σ 29 12 (-1)) ((σ 29 6) - 1)
              else
                if (σ 30 ((σ 29 6) - 1).toNatClampNeg) = 3 then
                  zb_Weaver_leave_166 N (zx_up σ 29 10 ((σ 29 10) ||| (zJ_shl 1 (σ 31 ((σ 29 6) - 1).toNatClampNeg)))) ((σ 29 6) - 1)
                else
                  if (σ 30 ((σ 29 6) - 1).toNatClampNeg) = 4 then
                    if 0 ≤ ((σ 29 6) - 1) ∧ ((σ 29 6) - 1) < 8 then
                      if 0 ≤ ((σ 29 6) - 1) ∧ ((σ 29 6) - 1) < 8 then
                        zb_Weaver_leave_166 N (zx_up (zx_up σ 29 9 ((σ 29 9) ||| (σ 32 ((σ 29 6) - 1).toNatClampNeg))) 29 10 ((σ 29 10) ||| (σ 33 ((σ 29 6) - 1).toNatClampNeg))) ((σ 29 6) - 1)
                      else none
                    else none
                  else
                    (zf_Weaver_closeOpen N σ (σ 31 ((σ 29 6) - 1).toNatClampNeg)).bind fun r10 =>
                    zb_Weaver_leave_166 N (zx_up r10 29 10 (zJ_shl 1 (σ 31 ((σ 29 6) - 1).toNatClampNeg))) ((σ 29 6) - 1)
        else none
      else none
    else
      some (σ)
/-- RX10.turnToElse [29] -/
def zf_Weaver_turnToElse (σ : zS) : Option (zS) :=
  if (σ 29 6) ≤ 0 then
    some (σ)
  else
    if 8 < (σ 29 6) then
      some (σ)
    else
      if 0 ≤ ((σ 29 6) - 1) ∧ ((σ 29 6) - 1) < 8 then
        if 0 ≤ ((σ 29 6) - 1) ∧ ((σ 29 6) - 1) < 8 then
          if 0 ≤ ((σ 29 6) - 1) ∧ ((σ 29 6) - 1) < 8 then
            if 0 ≤ ((σ 29 6) - 1) ∧ ((σ 29 6) - 1) < 8 then
              some ((zx_up (zx_up (zx_up (zx_up (zx_up σ 30 ((σ 29 6) - 1).toNatClampNeg 4) 32 ((σ 29 6) - 1).toNatClampNeg (σ 29 9)) 33 ((σ 29 6) - 1).toNatClampNeg (σ 29 10)) 29 9 0) 29 10 (zJ_shl 1 (σ 31 ((σ 29 6) - 1).toNatClampNeg))))
            else none
          else none
        else none
      else none
def zb_Reader_closeBlock_70 (N : Nat) (σ : zS) (τ : zT) : Option (zS × zT) :=
  (zf_Weaver_leave N σ).bind fun r5 =>
  some (r5, τ)
def zb_Reader_closeBlock_21 (N : Nat) (σ : zS) (τ : zT) (v1 : Int32) : Option (zS × zT) :=
  (zf_Tokens_advance σ τ).bind fun r3 =>
  if ¬ v1 = 3 then
    zb_Reader_closeBlock_70 N r3.1 r3.2
  else
    if ¬ (r3.1 25 7) = 305 then
      zb_Reader_closeBlock_70 N r3.1 r3.2
    else
      (zf_Tokens_advance r3.1 r3.2).bind fun r7 =>
      (zf_Weaver_turnToElse r7.1).bind fun r8 =>
      (zf_Reader_expect r8 r7.2 123).bind fun r9 =>
      some (r9.2.1, r9.2.2)
/-- RX7.closeBlock [17] -/
def zf_Reader_closeBlock (N : Nat) (σ : zS) (τ : zT) : Option (zS × zT) :=
  (zf_Weaver_innermost σ).bind fun r1 =>
  if ¬ r1 = 1 then
    zb_Reader_closeBlock_21 N σ τ r1
  else
    (zf_Reader_hasRoomForStep σ).bind fun r10 =>
    if ¬ r10.1 = 0 then
      zb_Reader_closeBlock_21 N r10.2 τ r1
    else
      some (r10.2, τ)
/-- RX3.makeLocal [18] -/
def zf_Names_makeLocal (N : Nat) (σ : zS) (τ : zT) (x1 : Int64) : Option (Int32 × zS × zT) :=
  (zf_Names_localOf N σ τ x1).bind fun r1 =>
  if ¬ r1 = (-1) then
    some (r1, σ, τ)
  else
    if (σ 18 5) < 0 then
      some (r1, σ, τ)
    else
      if (σ 18 5) < 3 then
        if 0 ≤ (σ 18 5) ∧ (σ 18 5) < 3 then
          some ((((σ 18 5) + 1) - 1), (zx_up σ 18 5 ((σ 18 5) + 1)), (zx_up τ 22 (σ 18 5).toNatClampNeg x1))
        else none
      else
        some (r1, σ, τ)
def zb_Reader_takeSetValue_121 (N : Nat) (σ : zS) (τ : zT) (s0 : Int32) : Option (Int32 × zS × zT) :=
  (zf_Tokens_advance σ τ).bind fun r7 =>
  some (s0, r7.1, r7.2)
def zb_Reader_takeSetValue_102 (N : Nat) (σ : zS) (τ : zT) (v1 : Int32) (v2 : Int32) : Option (Int32 × zS × zT) :=
  if v1 = 0 then
    zb_Reader_takeSetValue_121 N σ τ ((τ 25 9) : Int64).toInt32
  else
    zb_Reader_takeSetValue_121 N σ τ (8 + v2)
def zb_Reader_takeSetValue_84 (N : Nat) (σ : zS) (τ : zT) (v1 : Int32) (s0 : Int32) : Option (Int32 × zS × zT) :=
  if v1 = 0 then
    zb_Reader_takeSetValue_102 N σ τ v1 s0
  else
    if ¬ s0 = (-1) then
      zb_Reader_takeSetValue_102 N σ τ v1 s0
    else
      (zf_Reader_failHere σ 4).bind fun r9 =>
      some ((-1), r9.2, τ)
def zb_Reader_takeSetValue_62 (N : Nat) (σ : zS) (τ : zT) (v1 : Int32) : Option (Int32 × zS × zT) :=
  if v1 = 0 then
    zb_Reader_takeSetValue_84 N σ τ v1 (-1)
  else
    (zf_Names_makeLocal N σ τ (τ 25 9)).bind fun r10 =>
    zb_Reader_takeSetValue_84 N r10.2.1 r10.2.2 v1 r10.1
def zb_Reader_takeSetValue_54 (N : Nat) (σ : zS) (τ : zT) : Option (Int32 × zS × zT) :=
  (zf_Reader_failHere σ 2).bind fun r13 =>
  some ((-1), r13.2, τ)
def zb_Reader_takeSetValue_32 (N : Nat) (σ : zS) (τ : zT) (v1 : Int32) : Option (Int32 × zS × zT) :=
  if v1 = 0 then
    zb_Reader_takeSetValue_62 N σ τ v1
  else
    (zf_Names_sortOf N σ τ (τ 25 9)).bind fun r11 =>
    if r11 = (-1) then
      zb_Reader_takeSetValue_62 N σ τ v1
    else
      zb_Reader_takeSetValue_54 N σ τ
def zb_Reader_takeSetValue_16 (N : Nat) (σ : zS) (τ : zT) (s0 : Int32) : Option (Int32 × zS × zT) :=
  if ¬ s0 = 0 then
    zb_Reader_takeSetValue_32 N σ τ s0
  else
    if ¬ (σ 25 7) = 2 then
      zb_Reader_takeSetValue_54 N σ τ
    else
      zb_Reader_takeSetValue_32 N σ τ s0
/-- RX7.takeSetValue [17] -/
def zf_Reader_takeSetValue (N : Nat) (σ : zS) (τ : zT) : Option (Int32 × zS × zT) :=
  if ¬ (σ 25 7) = 3 then
    zb_Reader_takeSetValue_16 N σ τ 0
  else
    zb_Reader_takeSetValue_16 N σ τ 1
def zb_Reader_readSum_61 (N : Nat) (σ : zS) (τ : zT) (v1 : Int32) (v2 : Int32) (v3 : Int32) (v4 : Int32) : Option (zS × zT) :=
  if v4 = (-1) then
    some (σ, τ)
  else
    (zf_Weaver_emit N σ 2 (-1)).bind fun r7 =>
    (zf_Weaver_work r7 v1 v2 v3 v4).bind fun r8 =>
    (zf_Reader_expect r8 τ 59).bind fun r9 =>
    some (r9.2.1, r9.2.2)
def zb_Reader_readSum_40 (N : Nat) (σ : zS) (τ : zT) (v1 : Int32) (v2 : Int32) : Option (zS × zT) :=
  (zf_Tokens_advance σ τ).bind fun r4 =>
  (zf_Reader_takeSetValue N r4.1 r4.2).bind fun r5 =>
  zb_Reader_readSum_61 N r5.2.1 r5.2.2 v1 v2 (σ 25 7) r5.1
/-- RX7.readSum [17] -/
def zf_Reader_readSum (N : Nat) (σ : zS) (τ : zT) (x1 : Int32) : Option (zS × zT) :=
  (zf_Reader_takeSetValue N σ τ).bind fun r1 =>
  if ¬ r1.1 = (-1) then
    if (r1.2.1 25 7) = 43 then
      zb_Reader_readSum_40 N r1.2.1 r1.2.2 x1 r1.1
    else
      if ¬ (r1.2.1 25 7) = 45 then
        zb_Reader_readSum_61 N r1.2.1 r1.2.2 x1 r1.1 (-1) 0
      else
        zb_Reader_readSum_40 N r1.2.1 r1.2.2 x1 r1.1
  else
    some (r1.2.1, r1.2.2)
/-- RX7.readRead [17] -/
def zf_Reader_readRead (N : Nat) (σ : zS) (τ : zT) (x1 : Int32) (x2 : Int32) : Option (zS × zT) :=
  (zf_Tokens_advance σ τ).bind fun r1 =>
  (zf_Weaver_emit N r1.1 0 x2).bind fun r2 =>
  (zf_Weaver_work r2 x1 0 (-1) 0).bind fun r3 =>
  (zf_Reader_expect r3 r1.2 59).bind fun r4 =>
  some (r4.2.1, r4.2.2)
/-- RX7.readWrite [17] -/
def zf_Reader_readWrite (N : Nat) (σ : zS) (τ : zT) (x1 : Int32) : Option (zS × zT) :=
  (zf_Reader_takeSetValue N σ τ).bind fun r1 =>
  if r1.1 = (-1) then
    some (r1.2.1, r1.2.2)
  else
    (zf_Weaver_emit N r1.2.1 1 x1).bind fun r3 =>
    (zf_Weaver_work r3 (-1) r1.1 (-1) 0).bind fun r4 =>
    (zf_Reader_expect r4 r1.2.2 59).bind fun r5 =>
    some (r5.2.1, r5.2.2)
def zb_Reader_readSetting_148 (N : Nat) (σ : zS) (τ : zT) (v2 : Int32) (v3 : Int32) (s0 : Int32) : Option (zS × zT) :=
  if v2 = 0 then
    if s0 = (-1) then
      (zf_Reader_readSum N σ τ v3).bind fun r18 =>
      some (r18.1, r18.2)
    else
      (zf_Reader_readRead N σ τ v3 s0).bind fun r19 =>
      some (r19.1, r19.2)
  else
    (zf_Reader_readWrite N σ τ v3).bind fun r20 =>
    some (r20.1, r20.2)
def zb_Reader_readSetting_94 (N : Nat) (σ : zS) (τ : zT) : Option (zS × zT) :=
  (zf_Reader_failHere σ 4).bind fun r9 =>
  some (r9.2, τ)
def zb_Reader_readSetting_78 (N : Nat) (σ : zS) (τ : zT) (v2 : Int32) (s0 : Int32) : Option (zS × zT) :=
  if s0 = (-1) then
    zb_Reader_readSetting_94 N σ τ
  else
    (zf_Weaver_hasRoom σ).bind fun r10 =>
    if ¬ r10 = 0 then
      (zf_Tokens_advance σ τ).bind fun r12 =>
      (zf_Reader_expect r12.1 r12.2 61).bind fun r13 =>
      if ¬ r13.1 = 0 then
        if ¬ (r13.2.1 25 7) = 3 then
          zb_Reader_readSetting_148 N r13.2.1 r13.2.2 v2 s0 (-1)
        else
          (zf_Names_numberOf N r13.2.1 r13.2.2 (r13.2.2 25 9) 0).bind fun r21 =>
          zb_Reader_readSetting_148 N r13.2.1 r13.2.2 v2 s0 r21
      else
        some (r13.2.1, r13.2.2)
    else
      zb_Reader_readSetting_94 N σ τ
def zb_Reader_readSetting_41 (N : Nat) (σ : zS) (τ : zT) (v1 : Int32) (s0 : Int32) : Option (zS × zT) :=
  if s0 = 0 then
    (zf_Names_makeLocal N σ τ (τ 25 9)).bind fun r7 =>
    zb_Reader_readSetting_78 N r7.2.1 r7.2.2 s0 r7.1
  else
    (zf_Names_numberOf N σ τ (τ 25 9) v1).bind fun r22 =>
    zb_Reader_readSetting_78 N σ τ s0 r22
def zb_Reader_readSetting_25 (N : Nat) (σ : zS) (τ : zT) : Option (zS × zT) :=
  (zf_Reader_failHere σ 2).bind fun r3 =>
  some (r3.2, τ)
/-- RX7.readSetting [17] -/
def zf_Reader_readSetting (N : Nat) (σ : zS) (τ : zT) : Option (zS × zT) :=
  (zf_Names_sortOf N σ τ (τ 25 9)).bind fun r1 =>
  if r1 = 1 then
    zb_Reader_readSetting_25 N σ τ
  else
    if ¬ r1 = 2 then
      if ¬ r1 = 0 then
        zb_Reader_readSetting_41 N σ τ r1 0
      else
        zb_Reader_readSetting_41 N σ τ r1 1
    else
      zb_Reader_readSetting_25 N σ τ
/-- RX7.readStatement [17] -/
def zf_Reader_readStatement (N : Nat) (σ : zS) (τ : zT) : Option (zS × zT) :=
  if (σ 25 7) = 3 then
    (zf_Reader_readSetting N σ τ).bind fun r25 =>
    some (r25.1, r25.2)
  else
    if (σ 25 7) = 125 then
      (zf_Reader_closeBlock N σ τ).bind fun r24 =>
      some (r24.1, r24.2)
    else
      if (σ 25 7) = 302 then
        (zf_Reader_readLock N σ τ).bind fun r23 =>
        some (r23.1, r23.2)
      else
        if (σ 25 7) = 304 then
          (zf_Reader_readBranch N σ τ 5 3).bind fun r22 =>
          some (r22.1, r22.2)
        else
          if (σ 25 7) = 306 then
            (zf_Reader_readBranch N σ τ 6 5).bind fun r21 =>
            some (r21.1, r21.2)
          else
            if (σ 25 7) = 307 then
              (zf_Reader_readSignal N σ τ 7).bind fun r20 =>
              some (r20.1, r20.2)
            else
              if (σ 25 7) = 308 then
                (zf_Reader_readSignal N σ τ 8).bind fun r19 =>
                some (r19.1, r19.2)
              else
                if (σ 25 7) = 310 then
                  (zf_Reader_readThreadStep N σ τ 10).bind fun r18 =>
                  some (r18.1, r18.2)
                else
                  if (σ 25 7) = 311 then
                    (zf_Reader_readThreadStep N σ τ 11).bind fun r17 =>
                    some (r17.1, r17.2)
                  else
                    if (σ 25 7) = 312 then
                      (zf_Reader_readCheck N σ τ).bind fun r16 =>
                      some (r16.1, r16.2)
                    else
                      if (σ 25 7) = 313 then
                        (zf_Reader_readStop N σ τ).bind fun r15 =>
                        some (r15.1, r15.2)
                      else
                        if (σ 25 7) = 314 then
                          (zf_Reader_readSpan σ τ).bind fun r14 =>
                          some (r14.1, r14.2)
                        else
                          (zf_Reader_failHere σ 2).bind fun r13 =>
                          some (r13.2, τ)
def zb_Reader_readText_95 (N : Nat) : Nat → zS → zT → Int32 → Option (zS × zT)
  | 0, _, _, _ => none
  | n + 1, σ, τ, v2 =>
    if 96 ≤ v2 then
      some (σ, τ)
    else
      if ¬ (σ 17 6) = 0 then
        some (σ, τ)
      else
        (zf_Reader_findThread N σ τ v2).bind fun r8 =>
        zb_Reader_readText_95 N n r8 τ (v2 + 1)
def zb_Reader_readText_93 (N : Nat) (σ : zS) (τ : zT) : Option (zS × zT) :=
  zb_Reader_readText_95 N N σ τ 0
def zb_Reader_readText_87 (k42 : zS → zT → Int32 → Option (zS × zT)) (N : Nat) (σ : zS) (τ : zT) (v2 : Int32) : Option (zS × zT) :=
  k42 σ τ (v2 + 1)
def zb_Reader_readText_42 (N : Nat) : Nat → zS → zT → Int32 → Option (zS × zT)
  | 0, _, _, _ => none
  | n + 1, σ, τ, v2 =>
    if 1500 < v2 then
      zb_Reader_readText_93 N σ τ
    else
      if ¬ (σ 17 6) = 0 then
        zb_Reader_readText_93 N σ τ
      else
        if (σ 29 6) ≤ 0 then
          if (σ 25 7) = 0 then
            zb_Reader_readText_93 N σ τ
          else
            (zf_Reader_readTelling N σ τ).bind fun r12 =>
            zb_Reader_readText_87 (zb_Reader_readText_42 N n) N r12.1 r12.2 v2
        else
          (zf_Reader_readStatement N σ τ).bind fun r13 =>
          zb_Reader_readText_87 (zb_Reader_readText_42 N n) N r13.1 r13.2 v2
/-- RX7.readText [17] -/
def zf_Reader_readText (N : Nat) (σ : zS) (τ : zT) (x1 : Int32) : Option (zS × zT) :=
  (zf_Program_clear N (zx_up (zx_up σ 17 6 0) 17 7 0)).bind fun r1 =>
  (zf_Names_clear r1).bind fun r2 =>
  (zf_Weaver_beginThread r2 0).bind fun r3 =>
  (zf_Tokens_scan N r3 τ x1).bind fun r4 =>
  zb_Reader_readText_42 N N r4.1 r4.2 0
/-- RX1.forget [76] -/
def zf_Judge_forget (σ : zS) : Option (zS) :=
  some ((zx_up σ 76 5 0))
def zb_Arrays_fill_c2_5 (N : Nat) : Nat → zS → Int32 → Int32 → Int32 → Option (zS)
  | 0, _, _, _, _ => none
  | n + 1, σ, v1, v2, v3 =>
    if v3 ≤ v2 then
      some (σ)
    else
      if 0 ≤ v2 ∧ v2 < 6 then
        zb_Arrays_fill_c2_5 N n (zx_up σ 75 v2.toNatClampNeg v1) v1 (v2 + 1) v3
      else none
/-- RJ7.fill [75] -/
def zf_Arrays_fill_c2 (N : Nat) (σ : zS) (x2 : Int32) : Option (zS) :=
  zb_Arrays_fill_c2_5 N N σ x2 0 6
def zb_X_read_40 (N : Nat) (σ : zS) (τ : zT) (s0 : Int32) : Option (Int32 × zS × zT) :=
  if s0 = 0 ∨ s0 = 1 then
    (zf_Judge_forget (zx_up (zx_up (zx_up (zx_up σ 2 13 s0) 2 14 0) 2 15 0) 2 16 (-1))).bind fun r4 =>
    (zf_Arrays_fill_c2 N r4 (-1)).bind fun r5 =>
    if (r5 2 13) = 0 then
      some (((-1000) - (r5 17 7)), r5, τ)
    else
      some ((r5 4 4), r5, τ)
  else none
/-- RX11.read [2] -/
def zf_X_read (N : Nat) (σ : zS) (τ : zT) : Option (Int32 × zS × zT) :=
  (zf_Reader_readText N σ τ (σ 2 11)).bind fun r1 =>
  if ¬ (r1.1 17 6) = 0 then
    zb_X_read_40 N (zx_up (zx_up r1.1 2 11 0) 2 12 (r1.1 17 6)) r1.2 0
  else
    zb_X_read_40 N (zx_up (zx_up r1.1 2 11 0) 2 12 (r1.1 17 6)) r1.2 1
/-- RX12.byteAt [82] -/
def zf_M_byteAt (σ : zS) (x1 : Int32) : Option (Int32) :=
  if (σ 82 4) ≤ x1 then
    some (0)
  else
    if 0 ≤ x1 ∧ x1 < 1500 then
      some (((σ 84 x1.toNatClampNeg) &&& 255))
    else none
/-- RX12.isLetter [] -/
def zf_M_isLetter (σ : zS) (x1 : Int32) : Option (Int32) :=
  (zf_M_in σ x1 97 122).bind fun r1 =>
  if r1 = 0 ∨ r1 = 1 then
    some (r1)
  else none
/-- RX12.isDigit [] -/
def zf_M_isDigit (σ : zS) (x1 : Int32) : Option (Int32) :=
  (zf_M_in σ x1 48 57).bind fun r1 =>
  if r1 = 0 ∨ r1 = 1 then
    some (r1)
  else none
def zb_M_wordHere_4 (N : Nat) : Nat → zS → Int64 → Int32 → Option (Int32)
  | 0, _, _, _ => none
  | n + 1, σ, v1, v3 =>
    if (σ 82 6) ≤ v3 then
      if ¬ v1 = 439854918756 then
        if ¬ v1 = 1869636974 then
          if ¬ v1 = 1819239275 then
            if ¬ v1 = 127991944667492 then
              if ¬ v1 = 26982 then
                if ¬ v1 = 1701606245 then
                  if ¬ v1 = 512852847717 then
                    if ¬ v1 = 2002872692 then
                      if ¬ v1 = 2002873189 then
                        if ¬ v1 = 6384748 then
                          if ¬ v1 = 495873782388 then
                            if ¬ v1 = 1785686382 then
                              if ¬ v1 = 426953237355 then
                                if ¬ v1 = 1937010544 then
                                  if ¬ v1 = 1936744814 then
                                    some (0)
                                  else
                                    some (15)
                                else
                                  some (14)
                              else
                                some (13)
                            else
                              some (12)
                          else
                            some (11)
                        else
                          some (10)
                      else
                        some (9)
                    else
                      some (8)
                  else
                    some (7)
                else
                  some (6)
              else
                some (5)
            else
              some (4)
          else
            some (3)
        else
          some (2)
      else
        some (1)
    else
      (zf_M_byteAt σ ((σ 82 5) + v3)).bind fun r17 =>
      zb_M_wordHere_4 N n σ ((zJ_lshl v1 8) ||| (r17 : Int32).toInt64) (v3 + 1)
/-- RX12.wordHere [82] -/
def zf_M_wordHere (N : Nat) (σ : zS) : Option (Int32) :=
  zb_M_wordHere_4 N N σ 0 0
def zb_M_next_361 (N : Nat) (σ : zS) (v2 : Int32) (s0 : Int32) : Option (zS) :=
  some ((zx_up (zx_up σ 82 7 s0) 82 8 v2))
def zb_M_next_348 (N : Nat) (σ : zS) (v2 : Int32) (s0 : Int32) : Option (zS) :=
  if s0 = 0 then
    zb_M_next_361 N σ v2 1
  else
    zb_M_next_361 N σ v2 4
def zb_M_next_343 (N : Nat) (σ : zS) (v2 : Int32) : Option (zS) :=
  zb_M_next_348 N σ v2 1
def zb_M_next_295 (N : Nat) (σ : zS) (v2 : Int32) : Option (zS) :=
  if v2 = 61 then
    zb_M_next_343 N σ v2
  else
    if v2 = 59 then
      zb_M_next_343 N σ v2
    else
      if v2 = 123 then
        zb_M_next_343 N σ v2
      else
        if v2 = 125 then
          zb_M_next_343 N σ v2
        else
          if v2 = 60 then
            zb_M_next_343 N σ v2
          else
            if v2 = 62 then
              zb_M_next_343 N σ v2
            else
              if v2 = 43 then
                zb_M_next_343 N σ v2
              else
                if ¬ v2 = 45 then
                  zb_M_next_348 N σ v2 0
                else
                  zb_M_next_343 N σ v2
def zb_M_next_289 (N : Nat) (σ : zS) (s0 : Int32) : Option (zS) :=
  some ((zx_up σ 82 8 s0))
def zb_M_next_257 (N : Nat) (σ : zS) (v2 : Int32) (v3 : Int32) : Option (zS) :=
  if ¬ v3 = 61 then
    zb_M_next_295 N σ v2
  else
    if ¬ v2 = 61 then
      zb_M_next_289 N (zx_up (zx_up σ 82 6 2) 82 7 4) 1001
    else
      zb_M_next_289 N (zx_up (zx_up σ 82 6 2) 82 7 4) 1000
def zb_M_next_239 (N : Nat) (σ : zS) (s0 : Int32) : Option (zS) :=
  some ((zx_up σ 82 7 s0))
def zb_M_next_234 (N : Nat) (σ : zS) : Option (zS) :=
  zb_M_next_239 N σ 1
def zb_M_next_161 (N : Nat) (σ : zS) (s0 : Int32) : Option (zS) :=
  if ¬ s0 = 2 then
    some ((zx_up σ 82 7 s0))
  else
    (zf_M_wordHere N (zx_up σ 82 7 s0)).bind fun r35 =>
    if r35 ≤ 0 then
      some ((zx_up σ 82 7 s0))
    else
      (zf_M_wordHere N (zx_up (zx_up σ 82 7 s0) 82 7 5)).bind fun r37 =>
      some ((zx_up (zx_up (zx_up σ 82 7 s0) 82 7 5) 82 8 r37))
def zb_M_next_133 (k101 : zS → Int32 → Option (zS)) (N : Nat) (σ : zS) (v1 : Int32) : Option (zS) :=
  k101 (zx_up σ 82 6 ((σ 82 6) + 1)) v1
def zb_M_next_101 (N : Nat) : Nat → zS → Int32 → Option (zS)
  | 0, _, _ => none
  | n + 1, σ, v1 =>
    (zf_M_byteAt σ (v1 + (σ 82 6))).bind fun r27 =>
    (zf_M_isLetter σ r27).bind fun r28 =>
    if ¬ r28 = 0 then
      zb_M_next_133 (zb_M_next_101 N n) N σ v1
    else
      (zf_M_byteAt σ (v1 + (σ 82 6))).bind fun r30 =>
      (zf_M_isDigit σ r30).bind fun r31 =>
      if r31 = 0 then
        if (σ 82 6) ≤ 6 then
          zb_M_next_161 N σ 2
        else
          zb_M_next_161 N σ 1
      else
        zb_M_next_133 (zb_M_next_101 N n) N σ v1
def zb_M_next_44 (N : Nat) (σ : zS) (v1 : Int32) : Option (zS) :=
  (zf_M_byteAt (zx_up (zx_up (zx_up σ 82 5 v1) 82 6 1) 82 8 0) v1).bind fun r2 =>
  (zf_M_byteAt (zx_up (zx_up (zx_up σ 82 5 v1) 82 6 1) 82 8 0) (v1 + 1)).bind fun r3 =>
  if v1 < (σ 82 4) then
    (zf_M_isLetter (zx_up (zx_up (zx_up σ 82 5 v1) 82 6 1) 82 8 0) r2).bind fun r5 =>
    if r5 = 0 then
      (zf_M_isDigit (zx_up (zx_up (zx_up σ 82 5 v1) 82 6 1) 82 8 0) r2).bind fun r7 =>
      if r7 = 0 then
        if r2 = 61 then
          zb_M_next_257 N (zx_up (zx_up (zx_up σ 82 5 v1) 82 6 1) 82 8 0) r2 r3
        else
          if ¬ r2 = 33 then
            zb_M_next_295 N (zx_up (zx_up (zx_up σ 82 5 v1) 82 6 1) 82 8 0) r2
          else
            zb_M_next_257 N (zx_up (zx_up (zx_up σ 82 5 v1) 82 6 1) 82 8 0) r2 r3
      else
        if 7 < (r2 - 48) then
          zb_M_next_234 N (zx_up (zx_up (zx_up (zx_up σ 82 5 v1) 82 6 1) 82 8 0) 82 8 (r2 - 48))
        else
          (zf_M_isDigit (zx_up (zx_up (zx_up (zx_up σ 82 5 v1) 82 6 1) 82 8 0) 82 8 (r2 - 48)) r3).bind fun r23 =>
          if ¬ r23 = 0 then
            zb_M_next_234 N (zx_up (zx_up (zx_up (zx_up σ 82 5 v1) 82 6 1) 82 8 0) 82 8 (r2 - 48))
          else
            (zf_M_isLetter (zx_up (zx_up (zx_up (zx_up σ 82 5 v1) 82 6 1) 82 8 0) 82 8 (r2 - 48)) r3).bind fun r25 =>
            if r25 = 0 then
              zb_M_next_239 N (zx_up (zx_up (zx_up (zx_up σ 82 5 v1) 82 6 1) 82 8 0) 82 8 (r2 - 48)) 3
            else
              zb_M_next_234 N (zx_up (zx_up (zx_up (zx_up σ 82 5 v1) 82 6 1) 82 8 0) 82 8 (r2 - 48))
    else
      zb_M_next_101 N N (zx_up (zx_up (zx_up σ 82 5 v1) 82 6 1) 82 8 0) v1
  else
    some ((zx_up (zx_up (zx_up (zx_up (zx_up σ 82 5 v1) 82 6 1) 82 8 0) 82 6 0) 82 7 0))
def zb_M_next_38 (k10 : zS → Int32 → Option (zS)) (N : Nat) (σ : zS) (v1 : Int32) : Option (zS) :=
  k10 σ (v1 + 1)
def zb_M_next_10 (N : Nat) : Nat → zS → Int32 → Option (zS)
  | 0, _, _ => none
  | n + 1, σ, v1 =>
    if (σ 82 4) ≤ v1 then
      zb_M_next_44 N σ v1
    else
      (zf_M_byteAt σ v1).bind fun r38 =>
      if r38 = 32 then
        zb_M_next_38 (zb_M_next_10 N n) N σ v1
      else
        (zf_M_byteAt σ v1).bind fun r40 =>
        if ¬ r40 = 10 then
          zb_M_next_44 N σ v1
        else
          zb_M_next_38 (zb_M_next_10 N n) N σ v1
/-- RX12.next [82] -/
def zf_M_next (N : Nat) (σ : zS) : Option (zS) :=
  zb_M_next_10 N N σ ((σ 82 5) + (σ 82 6))
def zb_M_allSteps_4 (N : Nat) : Nat → zS → Int32 → Int32 → Option (Int32)
  | 0, _, _, _ => none
  | n + 1, σ, v1, v2 =>
    if (σ 82 17) ≤ v2 then
      some (v1)
    else
      if 0 ≤ v2 ∧ v2 < 4 then
        zb_M_allSteps_4 N n σ (v1 + (σ 90 v2.toNatClampNeg)) (v2 + 1)
      else none
/-- RX12.allSteps [82] -/
def zf_M_allSteps (N : Nat) (σ : zS) : Option (Int32) :=
  zb_M_allSteps_4 N N σ 0 0
def zb_M_findLaters_245 (k180 : zS → Int32 → Int32 → Int32 → Int32 → Option (zS)) (N : Nat) (σ : zS) (v1 : Int32) (v2 : Int32) (v3 : Int32) (v4 : Int32) : Option (zS) :=
  k180 σ v1 v2 v3 (v4 + 1)
def zb_M_findLaters_224 (k180 : zS → Int32 → Int32 → Int32 → Int32 → Option (zS)) (N : Nat) (σ : zS) (v1 : Int32) (v2 : Int32) (v3 : Int32) (v4 : Int32) (v5 : Int32) : Option (zS) :=
  if 0 ≤ v5 ∧ v5 < 96 then
    if ¬ (σ 93 v5.toNatClampNeg) = (4 + v1) then
      zb_M_findLaters_245 k180 N σ v1 v2 v3 v4
    else
      if 0 ≤ v5 ∧ v5 < 96 then
        zb_M_findLaters_245 k180 N (zx_up σ 93 v5.toNatClampNeg v2) v1 v2 v3 v4
      else none
  else none
def zb_M_findLaters_180 (k169 : zS → Int32 → Int32 → Int32 → Option (zS)) (N : Nat) : Nat → zS → Int32 → Int32 → Int32 → Int32 → Option (zS)
  | 0, _, _, _, _, _ => none
  | n + 1, σ, v1, v2, v3, v4 =>
    if 0 ≤ v3 ∧ v3 < 4 then
      if (σ 90 v3.toNatClampNeg) ≤ v4 then
        k169 σ v1 v2 (v3 + 1)
      else
        if 0 ≤ ((24 * v3) + v4) ∧ ((24 * v3) + v4) < 96 then
          if (σ 92 ((24 * v3) + v4).toNatClampNeg) = 10 then
            zb_M_findLaters_224 (zb_M_findLaters_180 k169 N n) N σ v1 v2 v3 v4 ((24 * v3) + v4)
          else
            if 0 ≤ ((24 * v3) + v4) ∧ ((24 * v3) + v4) < 96 then
              if ¬ (σ 92 ((24 * v3) + v4).toNatClampNeg) = 11 then
                zb_M_findLaters_245 (zb_M_findLaters_180 k169 N n) N σ v1 v2 v3 v4
              else
                zb_M_findLaters_224 (zb_M_findLaters_180 k169 N n) N σ v1 v2 v3 v4 ((24 * v3) + v4)
            else none
        else none
    else none
def zb_M_findLaters_169 (k2 : zS → Int32 → Option (zS)) (N : Nat) : Nat → zS → Int32 → Int32 → Int32 → Option (zS)
  | 0, _, _, _, _ => none
  | n + 1, σ, v1, v2, v3 =>
    if (σ 82 17) ≤ v3 then
      k2 σ (v1 + 1)
    else
      zb_M_findLaters_180 (zb_M_findLaters_169 k2 N n) N N σ v1 v2 v3 0
def zb_M_findLaters_167 (k2 : zS → Int32 → Option (zS)) (N : Nat) (σ : zS) (v1 : Int32) (v2 : Int32) : Option (zS) :=
  zb_M_findLaters_169 k2 N N σ v1 v2 0
def zb_M_findLaters_135 (k21 : zS → Int32 → Int32 → Int32 → Option (zS)) (N : Nat) (σ : zS) (v1 : Int32) (v3 : Int32) (s0 : Int32) : Option (zS) :=
  k21 σ v1 s0 (v3 + 1)
def zb_M_findLaters_125 (k21 : zS → Int32 → Int32 → Int32 → Option (zS)) (N : Nat) (σ : zS) (v1 : Int32) (v2 : Int32) (v3 : Int32) (v4 : Int32) : Option (zS) :=
  if v4 = 0 then
    zb_M_findLaters_135 k21 N σ v1 v3 v2
  else
    zb_M_findLaters_135 k21 N σ v1 v3 v3
def zb_M_findLaters_117 (k60 : zS → Int32 → Int32 → Int32 → Int32 → Int32 → Option (zS)) (N : Nat) (σ : zS) (v1 : Int32) (v2 : Int32) (v3 : Int32) (v5 : Int32) (s0 : Int32) : Option (zS) :=
  k60 σ v1 v2 v3 s0 (v5 + 1)
def zb_M_findLaters_60 (k21 : zS → Int32 → Int32 → Int32 → Option (zS)) (N : Nat) : Nat → zS → Int32 → Int32 → Int32 → Int32 → Int32 → Option (zS)
  | 0, _, _, _, _, _, _ => none
  | n + 1, σ, v1, v2, v3, v4, v5 =>
    if 0 ≤ (17 + v1) ∧ (17 + v1) < 200 then
      if (σ 86 (17 + v1).toNatClampNeg) ≤ v5 then
        zb_M_findLaters_125 k21 N σ v1 v2 v3 v4
      else
        if v4 = 0 then
          zb_M_findLaters_125 k21 N σ v1 v2 v3 v4
        else
          if 0 ≤ ((6 * (10 + v3)) + v5) ∧ ((6 * (10 + v3)) + v5) < 1200 then
            if 0 ≤ ((6 * (17 + v1)) + v5) ∧ ((6 * (17 + v1)) + v5) < 1200 then
              if ¬ (σ 85 ((6 * (10 + v3)) + v5).toNatClampNeg) = (σ 85 ((6 * (17 + v1)) + v5).toNatClampNeg) then
                zb_M_findLaters_117 (zb_M_findLaters_60 k21 N n) N σ v1 v2 v3 v5 0
              else
                zb_M_findLaters_117 (zb_M_findLaters_60 k21 N n) N σ v1 v2 v3 v5 1
            else none
          else none
    else none
def zb_M_findLaters_55 (k21 : zS → Int32 → Int32 → Int32 → Option (zS)) (N : Nat) (σ : zS) (v1 : Int32) (v2 : Int32) (v3 : Int32) (s0 : Int32) : Option (zS) :=
  zb_M_findLaters_60 k21 N N σ v1 v2 v3 s0 0
def zb_M_findLaters_21 (k2 : zS → Int32 → Option (zS)) (N : Nat) : Nat → zS → Int32 → Int32 → Int32 → Option (zS)
  | 0, _, _, _, _ => none
  | n + 1, σ, v1, v2, v3 =>
    if (σ 82 17) ≤ v3 then
      if ¬ v2 = (-1) then
        zb_M_findLaters_167 k2 N σ v1 v2
      else
        if 0 ≤ v1 ∧ v1 < 128 then
          zb_M_findLaters_167 k2 N (zx_up (zx_up (zx_up σ 82 9 1) 82 10 5) 82 11 (σ 87 v1.toNatClampNeg)) v1 v2
        else none
    else
      if 0 ≤ (10 + v3) ∧ (10 + v3) < 200 then
        if 0 ≤ (17 + v1) ∧ (17 + v1) < 200 then
          if ¬ (σ 86 (10 + v3).toNatClampNeg) = (σ 86 (17 + v1).toNatClampNeg) then
            zb_M_findLaters_55 (zb_M_findLaters_21 k2 N n) N σ v1 v2 v3 0
          else
            zb_M_findLaters_55 (zb_M_findLaters_21 k2 N n) N σ v1 v2 v3 1
        else none
      else none
def zb_M_findLaters_2 (N : Nat) : Nat → zS → Int32 → Option (zS)
  | 0, _, _ => none
  | n + 1, σ, v1 =>
    if (σ 82 19) ≤ v1 then
      some (σ)
    else
      if ¬ (σ 82 9) = 0 then
        some (σ)
      else
        zb_M_findLaters_21 (zb_M_findLaters_2 N n) N N σ v1 (-1) 0
/-- RX12.findLaters [82] -/
def zf_M_findLaters (N : Nat) (σ : zS) : Option (zS) :=
  zb_M_findLaters_2 N N σ 0
/-- RX12.fail [82] -/
def zf_M_fail (σ : zS) (x1 : Int32) : Option (zS) :=
  if ¬ (σ 82 9) = 0 then
    some (σ)
  else
    some ((zx_up (zx_up (zx_up σ 82 9 1) 82 10 x1) 82 11 (σ 82 5)))
def zb_M_cannot_14 (σ : zS) (s0 : Int32) : Option (zS) :=
  (zf_M_fail σ s0).bind fun r2 =>
  some (r2)
/-- RX12.cannot [82] -/
def zf_M_cannot (σ : zS) : Option (zS) :=
  if ¬ (σ 82 7) = 1 then
    zb_M_cannot_14 σ 2
  else
    zb_M_cannot_14 σ 1
/-- RX12.isWord [82] -/
def zf_M_isWord (σ : zS) (x1 : Int32) : Option (Int32) :=
  if ¬ (σ 82 7) = 5 then
    some (0)
  else
    if ¬ (σ 82 8) = x1 then
      some (0)
    else
      some (1)
def zb_M_find_88 (k2 : zS → Int32 → Int32 → Int32 → Option (Int32)) (N : Nat) (σ : zS) (v1 : Int32) (v2 : Int32) (v3 : Int32) (v4 : Int32) : Option (Int32) :=
  if v4 = 0 then
    k2 σ v1 v2 (v3 + 1)
  else
    some (v3)
def zb_M_find_80 (k32 : zS → Int32 → Int32 → Int32 → Int32 → Int32 → Option (Int32)) (N : Nat) (σ : zS) (v1 : Int32) (v2 : Int32) (v3 : Int32) (v5 : Int32) (s0 : Int32) : Option (Int32) :=
  k32 σ v1 v2 v3 s0 (v5 + 1)
def zb_M_find_32 (k2 : zS → Int32 → Int32 → Int32 → Option (Int32)) (N : Nat) : Nat → zS → Int32 → Int32 → Int32 → Int32 → Int32 → Option (Int32)
  | 0, _, _, _, _, _, _ => none
  | n + 1, σ, v1, v2, v3, v4, v5 =>
    if (σ 82 6) ≤ v5 then
      zb_M_find_88 k2 N σ v1 v2 v3 v4
    else
      if v4 = 0 then
        zb_M_find_88 k2 N σ v1 v2 v3 v4
      else
        if 0 ≤ ((6 * (v1 + v3)) + v5) ∧ ((6 * (v1 + v3)) + v5) < 1200 then
          if 0 ≤ ((σ 82 5) + v5) ∧ ((σ 82 5) + v5) < 1500 then
            if ¬ (σ 85 ((6 * (v1 + v3)) + v5).toNatClampNeg) = (σ 84 ((σ 82 5) + v5).toNatClampNeg) then
              zb_M_find_80 (zb_M_find_32 k2 N n) N σ v1 v2 v3 v5 0
            else
              zb_M_find_80 (zb_M_find_32 k2 N n) N σ v1 v2 v3 v5 1
          else none
        else none
def zb_M_find_27 (k2 : zS → Int32 → Int32 → Int32 → Option (Int32)) (N : Nat) (σ : zS) (v1 : Int32) (v2 : Int32) (v3 : Int32) (s0 : Int32) : Option (Int32) :=
  zb_M_find_32 k2 N N σ v1 v2 v3 s0 0
def zb_M_find_2 (N : Nat) : Nat → zS → Int32 → Int32 → Int32 → Option (Int32)
  | 0, _, _, _, _ => none
  | n + 1, σ, v1, v2, v3 =>
    if v2 ≤ v3 then
      some ((-1))
    else
      if 0 ≤ (v1 + v3) ∧ (v1 + v3) < 200 then
        if ¬ (σ 86 (v1 + v3).toNatClampNeg) = (σ 82 6) then
          zb_M_find_27 (zb_M_find_2 N n) N σ v1 v2 v3 0
        else
          zb_M_find_27 (zb_M_find_2 N n) N σ v1 v2 v3 1
      else none
/-- RX12.find [82] -/
def zf_M_find (N : Nat) (σ : zS) (x1 : Int32) (x2 : Int32) : Option (Int32) :=
  zb_M_find_2 N N σ x1 x2 0
/-- RX12.fieldHere [82] -/
def zf_M_fieldHere (N : Nat) (σ : zS) : Option (Int32) :=
  (zf_M_find N σ 0 (σ 82 15)).bind fun r1 =>
  some (r1)
/-- RX12.lockHere [82] -/
def zf_M_lockHere (N : Nat) (σ : zS) : Option (Int32) :=
  (zf_M_find N σ 6 (σ 82 16)).bind fun r1 =>
  some (r1)
/-- RX12.threadHere [82] -/
def zf_M_threadHere (N : Nat) (σ : zS) : Option (Int32) :=
  (zf_M_find N σ 10 (σ 82 17)).bind fun r1 =>
  some (r1)
def zb_M_isTold_24 (N : Nat) (σ : zS) : Option (Int32) :=
  some (1)
/-- RX12.isTold [82] -/
def zf_M_isTold (N : Nat) (σ : zS) : Option (Int32) :=
  (zf_M_fieldHere N σ).bind fun r1 =>
  if ¬ r1 = (-1) then
    zb_M_isTold_24 N σ
  else
    (zf_M_lockHere N σ).bind fun r3 =>
    if ¬ r3 = (-1) then
      zb_M_isTold_24 N σ
    else
      (zf_M_threadHere N σ).bind fun r5 =>
      if r5 = (-1) then
        some (0)
      else
        zb_M_isTold_24 N σ
def zb_M_call_12 (N : Nat) : Nat → zS → Int32 → Int32 → Option (zS)
  | 0, _, _, _ => none
  | n + 1, σ, v1, v2 =>
    if (σ 82 6) ≤ v2 then
      some (σ)
    else
      if 0 ≤ ((σ 82 5) + v2) ∧ ((σ 82 5) + v2) < 1500 then
        if 0 ≤ ((6 * v1) + v2) ∧ ((6 * v1) + v2) < 1200 then
          zb_M_call_12 N n (zx_up σ 85 ((6 * v1) + v2).toNatClampNeg (zJ_byte (σ 84 ((σ 82 5) + v2).toNatClampNeg))) v1 (v2 + 1)
        else none
      else none
/-- RX12.call [82] -/
def zf_M_call (N : Nat) (σ : zS) (x1 : Int32) : Option (zS) :=
  if 0 ≤ x1 ∧ x1 < 200 then
    zb_M_call_12 N N (zx_up σ 86 x1.toNatClampNeg (σ 82 6)) x1 0
  else none
/-- RX12.isSign [82] -/
def zf_M_isSign (σ : zS) (x1 : Int32) : Option (Int32) :=
  if ¬ (σ 82 7) = 4 then
    some (0)
  else
    if ¬ (σ 82 8) = x1 then
      some (0)
    else
      some (1)
/-- RX12.openBlock [82] -/
def zf_M_openBlock (N : Nat) (σ : zS) (x1 : Int32) (x2 : Int32) : Option (zS) :=
  if (σ 82 9) = 0 then
    (zf_M_isSign σ 123).bind fun r2 =>
    if ¬ r2 = 0 then
      if ¬ (σ 82 46) = 8 then
        (zf_M_next N σ).bind fun r5 =>
        if 0 ≤ (r5 82 46) ∧ (r5 82 46) < 10 then
          if 0 ≤ (r5 82 46) ∧ (r5 82 46) < 10 then
            if 0 ≤ (r5 82 46) ∧ (r5 82 46) < 10 then
              some ((zx_up (zx_up (zx_up (zx_up r5 103 (r5 82 46).toNatClampNeg x1) 104 (r5 82 46).toNatClampNeg x2) 106 (r5 82 46).toNatClampNeg (r5 82 40)) 82 46 ((r5 82 46) + 1)))
            else none
          else none
        else none
      else
        (zf_M_fail σ 4).bind fun r9 =>
        some (r9)
    else
      (zf_M_cannot σ).bind fun r10 =>
      some (r10)
  else
    some (σ)
def zb_M_lead_62 (k8 : zS → Int32 → Int32 → Option (zS)) (N : Nat) (σ : zS) (v1 : Int32) (v2 : Int32) : Option (zS) :=
  k8 σ v1 v2
def zb_M_lead_8 (N : Nat) : Nat → zS → Int32 → Int32 → Option (zS)
  | 0, _, _, _ => none
  | n + 1, σ, v1, v2 =>
    if (σ 82 37) = (-1) then
      some (σ)
    else
      if 0 ≤ (σ 82 37) ∧ (σ 82 37) < 48 then
        if ¬ (zJ_rem (σ 82 37) 2) = 0 then
          if 0 ≤ (v2 + ((σ 82 37) / 2)) ∧ (v2 + ((σ 82 37) / 2)) < 96 then
            zb_M_lead_62 (zb_M_lead_8 N n) N (zx_up (zx_up σ 82 37 (σ 102 (σ 82 37).toNatClampNeg)) 95 (v2 + ((σ 82 37) / 2)).toNatClampNeg v1) v1 v2
          else none
        else
          if 0 ≤ (v2 + ((σ 82 37) / 2)) ∧ (v2 + ((σ 82 37) / 2)) < 96 then
            zb_M_lead_62 (zb_M_lead_8 N n) N (zx_up (zx_up σ 82 37 (σ 102 (σ 82 37).toNatClampNeg)) 94 (v2 + ((σ 82 37) / 2)).toNatClampNeg v1) v1 v2
          else none
      else none
/-- RX12.lead [82] -/
def zf_M_lead (N : Nat) (σ : zS) (x1 : Int32) : Option (zS) :=
  zb_M_lead_8 N N σ x1 (24 * (σ 82 39))
/-- RX12.wayOf [82] -/
def zf_M_wayOf (σ : zS) (x1 : Int32) (x2 : Int32) : Option (Int32 × zS) :=
  if 0 ≤ ((2 * x1) + x2) ∧ ((2 * x1) + x2) < 48 then
    some (((2 * x1) + x2), (zx_up σ 102 ((2 * x1) + x2).toNatClampNeg (-1)))
  else none
/-- RX12.addStep [82] -/
def zf_M_addStep (N : Nat) (σ : zS) (x1 : Int32) (x2 : Int32) : Option (Int32 × zS) :=
  if 0 ≤ (σ 82 39) ∧ (σ 82 39) < 4 then
    if ¬ (σ 90 (σ 82 39).toNatClampNeg) = 24 then
      if 0 ≤ ((24 * (σ 82 39)) + (σ 90 (σ 82 39).toNatClampNeg)) ∧ ((24 * (σ 82 39)) + (σ 90 (σ 82 39).toNatClampNeg)) < 96 then
        if 0 ≤ ((24 * (σ 82 39)) + (σ 90 (σ 82 39).toNatClampNeg)) ∧ ((24 * (σ 82 39)) + (σ 90 (σ 82 39).toNatClampNeg)) < 96 then
          if 0 ≤ ((24 * (σ 82 39)) + (σ 90 (σ 82 39).toNatClampNeg)) ∧ ((24 * (σ 82 39)) + (σ 90 (σ 82 39).toNatClampNeg)) < 96 then
            if 0 ≤ ((24 * (σ 82 39)) + (σ 90 (σ 82 39).toNatClampNeg)) ∧ ((24 * (σ 82 39)) + (σ 90 (σ 82 39).toNatClampNeg)) < 96 then
              if 0 ≤ ((24 * (σ 82 39)) + (σ 90 (σ 82 39).toNatClampNeg)) ∧ ((24 * (σ 82 39)) + (σ 90 (σ 82 39).toNatClampNeg)) < 96 then
                if 0 ≤ ((24 * (σ 82 39)) + (σ 90 (σ 82 39).toNatClampNeg)) ∧ ((24 * (σ 82 39)) + (σ 90 (σ 82 39).toNatClampNeg)) < 96 then
                  (zf_M_lead N (zx_up (zx_up (zx_up (zx_up (zx_up (zx_up σ 92 ((24 * (σ 82 39)) + (σ 90 (σ 82 39).toNatClampNeg)).toNatClampNeg x1) 93 ((24 * (σ 82 39)) + (σ 90 (σ 82 39).toNatClampNeg)).toNatClampNeg x2) 94 ((24 * (σ 82 39)) + (σ 90 (σ 82 39).toNatClampNeg)).toNatClampNeg (-1)) 95 ((24 * (σ 82 39)) + (σ 90 (σ 82 39).toNatClampNeg)).toNatClampNeg (-1)) 96 ((24 * (σ 82 39)) + (σ 90 (σ 82 39).toNatClampNeg)).toNatClampNeg (σ 82 40)) 97 ((24 * (σ 82 39)) + (σ 90 (σ 82 39).toNatClampNeg)).toNatClampNeg (σ 82 41)) (σ 90 (σ 82 39).toNatClampNeg)).bind fun r9 =>
                  if 0 ≤ (r9 82 39) ∧ (r9 82 39) < 4 then
                    if 0 ≤ (r9 82 39) ∧ (r9 82 39) < 4 then
                      if x1 = 13 then
                        some ((σ 90 (σ 82 39).toNatClampNeg), (zx_up r9 90 (r9 82 39).toNatClampNeg ((r9 90 (r9 82 39).toNatClampNeg) + 1)))
                      else
                        (zf_M_wayOf (zx_up r9 90 (r9 82 39).toNatClampNeg ((r9 90 (r9 82 39).toNatClampNeg) + 1)) (σ 90 (σ 82 39).toNatClampNeg) 0).bind fun r13 =>
                        some ((σ 90 (σ 82 39).toNatClampNeg), (zx_up r13.2 82 37 r13.1))
                    else none
                  else none
                else none
              else none
            else none
          else none
        else none
      else none
    else
      (zf_M_fail σ 4).bind fun r14 =>
      some (0, r14)
  else none
/-- RX12.nextIfWell [82] -/
def zf_M_nextIfWell (N : Nat) (σ : zS) : Option (zS) :=
  if ¬ (σ 82 9) = 0 then
    some (σ)
  else
    (zf_M_next N σ).bind fun r2 =>
    some (r2)
/-- RX12.take [82] -/
def zf_M_take (N : Nat) (σ : zS) (x1 : Int32) : Option (zS) :=
  if (σ 82 9) = 0 then
    (zf_M_isSign σ x1).bind fun r2 =>
    if r2 = 0 then
      (zf_M_cannot σ).bind fun r4 =>
      some (r4)
    else
      (zf_M_next N σ).bind fun r5 =>
      some (r5)
  else
    some (σ)
/-- RX12.local [82] -/
def zf_M_local (N : Nat) (σ : zS) (x1 : Int32) : Option (Int32 × zS) :=
  (zf_M_find N σ 14 (σ 82 18)).bind fun r1 =>
  if r1 = (-1) then
    if ¬ x1 = 0 then
      if ¬ (σ 82 18) = 3 then
        (zf_M_call N σ (14 + (σ 82 18))).bind fun r5 =>
        some ((((r5 82 18) + 1) - 1), (zx_up r5 82 18 ((r5 82 18) + 1)))
      else
        (zf_M_fail σ 4).bind fun r6 =>
        some (0, r6)
    else
      (zf_M_fail σ 3).bind fun r7 =>
      some (0, r7)
  else
    some (r1, σ)
def zb_M_value_53 (N : Nat) (σ : zS) (v2 : Int32) : Option (Int32 × zS) :=
  if ¬ (σ 82 9) = 0 then
    some (v2, σ)
  else
    (zf_M_next N σ).bind fun r5 =>
    some (v2, r5)
def zb_M_value_41 (N : Nat) (σ : zS) (v2 : Int32) : Option (Int32 × zS) :=
  if (σ 82 7) = 3 then
    zb_M_value_53 N σ v2
  else
    (zf_M_cannot σ).bind fun r6 =>
    zb_M_value_53 N r6 v2
/-- RX12.value [82] -/
def zf_M_value (N : Nat) (σ : zS) (x1 : Int32) : Option (Int32 × zS) :=
  if (σ 82 9) = 0 then
    if ¬ (σ 82 7) = 2 then
      zb_M_value_41 N σ (σ 82 8)
    else
      (zf_M_isTold N σ).bind fun r7 =>
      if ¬ r7 = 0 then
        zb_M_value_41 N σ (σ 82 8)
      else
        (zf_M_local N σ x1).bind fun r9 =>
        zb_M_value_53 N r9.2 (8 + r9.1)
  else
    some (0, σ)
def zb_M_test_98 (N : Nat) (σ : zS) (v2 : Int32) : Option (zS) :=
  (zf_M_next N σ).bind fun r9 =>
  (zf_M_value N r9 0).bind fun r10 =>
  if 0 ≤ v2 ∧ v2 < 96 then
    some ((zx_up r10.2 100 v2.toNatClampNeg r10.1))
  else none
def zb_M_test_93 (N : Nat) (σ : zS) : Option (zS) :=
  (zf_M_cannot σ).bind fun r7 =>
  some (r7)
/-- RX12.test [82] -/
def zf_M_test (N : Nat) (σ : zS) (x1 : Int32) : Option (zS) :=
  if (σ 82 9) = 0 then
    (zf_M_value N σ 0).bind fun r2 =>
    if 0 ≤ ((24 * (σ 82 39)) + x1) ∧ ((24 * (σ 82 39)) + x1) < 96 then
      if (r2.2 82 9) = 0 then
        if 0 ≤ ((24 * (σ 82 39)) + x1) ∧ ((24 * (σ 82 39)) + x1) < 96 then
          if ¬ (r2.2 82 7) = 4 then
            zb_M_test_93 N (zx_up (zx_up r2.2 99 ((24 * (σ 82 39)) + x1).toNatClampNeg r2.1) 101 ((24 * (σ 82 39)) + x1).toNatClampNeg (r2.2 82 8))
          else
            if (r2.2 82 8) = 1000 then
              zb_M_test_98 N (zx_up (zx_up r2.2 99 ((24 * (σ 82 39)) + x1).toNatClampNeg r2.1) 101 ((24 * (σ 82 39)) + x1).toNatClampNeg (r2.2 82 8)) ((24 * (σ 82 39)) + x1)
            else
              if (r2.2 82 8) = 1001 then
                zb_M_test_98 N (zx_up (zx_up r2.2 99 ((24 * (σ 82 39)) + x1).toNatClampNeg r2.1) 101 ((24 * (σ 82 39)) + x1).toNatClampNeg (r2.2 82 8)) ((24 * (σ 82 39)) + x1)
              else
                if (r2.2 82 8) = 60 then
                  zb_M_test_98 N (zx_up (zx_up r2.2 99 ((24 * (σ 82 39)) + x1).toNatClampNeg r2.1) 101 ((24 * (σ 82 39)) + x1).toNatClampNeg (r2.2 82 8)) ((24 * (σ 82 39)) + x1)
                else
                  if (r2.2 82 8) = 62 then
                    zb_M_test_98 N (zx_up (zx_up r2.2 99 ((24 * (σ 82 39)) + x1).toNatClampNeg r2.1) 101 ((24 * (σ 82 39)) + x1).toNatClampNeg (r2.2 82 8)) ((24 * (σ 82 39)) + x1)
                  else
                    zb_M_test_93 N (zx_up (zx_up r2.2 99 ((24 * (σ 82 39)) + x1).toNatClampNeg r2.1) 101 ((24 * (σ 82 39)) + x1).toNatClampNeg (r2.2 82 8))
        else none
      else
        some ((zx_up r2.2 99 ((24 * (σ 82 39)) + x1).toNatClampNeg r2.1))
    else none
  else
    some (σ)
def zb_M_threadNamed_116 (N : Nat) (σ : zS) (v1 : Int32) : Option (Int32 × zS) :=
  (zf_M_next N σ).bind fun r7 =>
  some (v1, r7)
def zb_M_threadNamed_112 (N : Nat) (σ : zS) (v1 : Int32) : Option (Int32 × zS) :=
  zb_M_threadNamed_116 N σ (4 + v1)
def zb_M_threadNamed_52 (N : Nat) (σ : zS) (v1 : Int32) : Option (Int32 × zS) :=
  if ¬ v1 = (-1) then
    zb_M_threadNamed_116 N σ v1
  else
    (zf_M_find N σ 17 (σ 82 19)).bind fun r8 =>
    if ¬ r8 = (-1) then
      zb_M_threadNamed_112 N σ r8
    else
      (zf_M_call N σ (17 + (σ 82 19))).bind fun r10 =>
      if 0 ≤ (r10 82 19) ∧ (r10 82 19) < 128 then
        zb_M_threadNamed_112 N (zx_up (zx_up r10 87 (r10 82 19).toNatClampNeg (r10 82 5)) 82 19 ((r10 82 19) + 1)) (r10 82 19)
      else none
def zb_M_threadNamed_46 (N : Nat) (σ : zS) : Option (Int32 × zS) :=
  (zf_M_cannot σ).bind fun r4 =>
  some (0, r4)
def zb_M_threadNamed_25 (N : Nat) (σ : zS) (s0 : Int32) : Option (Int32 × zS) :=
  if ¬ (σ 82 7) = 2 then
    zb_M_threadNamed_46 N σ
  else
    if ¬ s0 = (-1) then
      zb_M_threadNamed_52 N σ s0
    else
      (zf_M_isTold N σ).bind fun r12 =>
      if r12 = 0 then
        zb_M_threadNamed_52 N σ s0
      else
        zb_M_threadNamed_46 N σ
/-- RX12.threadNamed [82] -/
def zf_M_threadNamed (N : Nat) (σ : zS) : Option (Int32 × zS) :=
  if (σ 82 9) = 0 then
    if ¬ (σ 82 7) = 2 then
      zb_M_threadNamed_25 N σ (-1)
    else
      (zf_M_threadHere N σ).bind fun r14 =>
      zb_M_threadNamed_25 N σ r14
  else
    some (0, σ)
def zb_M_lockNamed_63 (N : Nat) (σ : zS) (v1 : Int32) : Option (Int32 × zS) :=
  if ¬ (σ 82 9) = 0 then
    some (v1, σ)
  else
    (zf_M_next N σ).bind fun r6 =>
    some (v1, r6)
def zb_M_lockNamed_53 (N : Nat) (σ : zS) (v1 : Int32) : Option (Int32 × zS) :=
  if ¬ v1 = (-1) then
    zb_M_lockNamed_63 N σ v1
  else
    (zf_M_fail σ 3).bind fun r9 =>
    zb_M_lockNamed_63 N r9 v1
def zb_M_lockNamed_46 (N : Nat) (σ : zS) (v1 : Int32) : Option (Int32 × zS) :=
  (zf_M_cannot σ).bind fun r4 =>
  zb_M_lockNamed_63 N r4 v1
def zb_M_lockNamed_25 (N : Nat) (σ : zS) (s0 : Int32) : Option (Int32 × zS) :=
  if ¬ (σ 82 7) = 2 then
    zb_M_lockNamed_46 N σ s0
  else
    if ¬ s0 = (-1) then
      zb_M_lockNamed_53 N σ s0
    else
      (zf_M_isTold N σ).bind fun r10 =>
      if r10 = 0 then
        zb_M_lockNamed_53 N σ s0
      else
        zb_M_lockNamed_46 N σ s0
/-- RX12.lockNamed [82] -/
def zf_M_lockNamed (N : Nat) (σ : zS) : Option (Int32 × zS) :=
  if (σ 82 9) = 0 then
    if ¬ (σ 82 7) = 2 then
      zb_M_lockNamed_25 N σ (-1)
    else
      (zf_M_lockHere N σ).bind fun r12 =>
      zb_M_lockNamed_25 N σ r12
  else
    some (0, σ)
def zb_M_assign_230 (N : Nat) (σ : zS) : Option (zS) :=
  (zf_M_take N σ 59).bind fun r17 =>
  some (r17)
def zb_M_assign_203 (N : Nat) (σ : zS) (v4 : Int32) : Option (zS) :=
  if 0 ≤ v4 ∧ v4 < 96 then
    (zf_M_next N (zx_up σ 101 v4.toNatClampNeg (σ 82 8))).bind fun r22 =>
    (zf_M_value N r22 1).bind fun r23 =>
    if 0 ≤ v4 ∧ v4 < 96 then
      zb_M_assign_230 N (zx_up r23.2 100 v4.toNatClampNeg r23.1)
    else none
  else none
def zb_M_assign_161 (N : Nat) (σ : zS) (v1 : Int32) (v4 : Int32) : Option (zS) :=
  (zf_M_value N σ 1).bind fun r14 =>
  if 0 ≤ v4 ∧ v4 < 96 then
    if ¬ v1 = (-1) then
      zb_M_assign_230 N (zx_up r14.2 99 v4.toNatClampNeg r14.1)
    else
      if ¬ (r14.2 82 9) = 0 then
        zb_M_assign_230 N (zx_up r14.2 99 v4.toNatClampNeg r14.1)
      else
        (zf_M_isSign (zx_up r14.2 99 v4.toNatClampNeg r14.1) 43).bind fun r19 =>
        if ¬ r19 = 0 then
          zb_M_assign_203 N (zx_up r14.2 99 v4.toNatClampNeg r14.1) v4
        else
          (zf_M_isSign (zx_up r14.2 99 v4.toNatClampNeg r14.1) 45).bind fun r25 =>
          if r25 = 0 then
            zb_M_assign_230 N (zx_up r14.2 99 v4.toNatClampNeg r14.1)
          else
            zb_M_assign_203 N (zx_up r14.2 99 v4.toNatClampNeg r14.1) v4
  else none
def zb_M_assign_56 (N : Nat) (σ : zS) (v1 : Int32) (v2 : Int32) (s0 : Int32) : Option (zS) :=
  (zf_M_addStep N σ s0 v1).bind fun r6 =>
  if (r6.2 82 9) = 0 then
    (zf_M_next N r6.2).bind fun r8 =>
    (zf_M_take N r8 61).bind fun r9 =>
    if (r9 82 9) = 0 then
      if 0 ≤ ((24 * (r6.2 82 39)) + r6.1) ∧ ((24 * (r6.2 82 39)) + r6.1) < 96 then
        if 0 ≤ ((24 * (r6.2 82 39)) + r6.1) ∧ ((24 * (r6.2 82 39)) + r6.1) < 96 then
          if ¬ v1 = (-1) then
            zb_M_assign_161 N (zx_up (zx_up r9 98 ((24 * (r6.2 82 39)) + r6.1).toNatClampNeg v2) 101 ((24 * (r6.2 82 39)) + r6.1).toNatClampNeg 0) v1 ((24 * (r6.2 82 39)) + r6.1)
          else
            if ¬ (r9 82 7) = 2 then
              zb_M_assign_161 N (zx_up (zx_up r9 98 ((24 * (r6.2 82 39)) + r6.1).toNatClampNeg v2) 101 ((24 * (r6.2 82 39)) + r6.1).toNatClampNeg 0) v1 ((24 * (r6.2 82 39)) + r6.1)
            else
              (zf_M_fieldHere N (zx_up (zx_up r9 98 ((24 * (r6.2 82 39)) + r6.1).toNatClampNeg v2) 101 ((24 * (r6.2 82 39)) + r6.1).toNatClampNeg 0)).bind fun r28 =>
              if r28 = (-1) then
                zb_M_assign_161 N (zx_up (zx_up r9 98 ((24 * (r6.2 82 39)) + r6.1).toNatClampNeg v2) 101 ((24 * (r6.2 82 39)) + r6.1).toNatClampNeg 0) v1 ((24 * (r6.2 82 39)) + r6.1)
              else
                if 0 ≤ ((24 * (r6.2 82 39)) + r6.1) ∧ ((24 * (r6.2 82 39)) + r6.1) < 96 then
                  (zf_M_fieldHere N (zx_up (zx_up (zx_up r9 98 ((24 * (r6.2 82 39)) + r6.1).toNatClampNeg v2) 101 ((24 * (r6.2 82 39)) + r6.1).toNatClampNeg 0) 92 ((24 * (r6.2 82 39)) + r6.1).toNatClampNeg 0)).bind fun r31 =>
                  if 0 ≤ ((24 * (r6.2 82 39)) + r6.1) ∧ ((24 * (r6.2 82 39)) + r6.1) < 96 then
                    (zf_M_next N (zx_up (zx_up (zx_up (zx_up r9 98 ((24 * (r6.2 82 39)) + r6.1).toNatClampNeg v2) 101 ((24 * (r6.2 82 39)) + r6.1).toNatClampNeg 0) 92 ((24 * (r6.2 82 39)) + r6.1).toNatClampNeg 0) 93 ((24 * (r6.2 82 39)) + r6.1).toNatClampNeg r31)).bind fun r33 =>
                    zb_M_assign_230 N r33
                  else none
                else none
        else none
      else none
    else
      some (r9)
  else
    some (r6.2)
def zb_M_assign_36 (N : Nat) (σ : zS) (v1 : Int32) (s0 : Int32) : Option (zS) :=
  if (σ 82 9) = 0 then
    if ¬ v1 = (-1) then
      zb_M_assign_56 N σ v1 s0 1
    else
      zb_M_assign_56 N σ v1 s0 2
  else
    some (σ)
def zb_M_assign_22 (N : Nat) (σ : zS) (v1 : Int32) : Option (zS) :=
  if ¬ v1 = (-1) then
    zb_M_assign_36 N σ v1 0
  else
    (zf_M_local N σ 1).bind fun r34 =>
    zb_M_assign_36 N r34.2 v1 r34.1
/-- RX12.assign [82] -/
def zf_M_assign (N : Nat) (σ : zS) : Option (zS) :=
  (zf_M_fieldHere N σ).bind fun r1 =>
  if ¬ r1 = (-1) then
    zb_M_assign_22 N σ r1
  else
    (zf_M_isTold N σ).bind fun r35 =>
    if r35 = 0 then
      zb_M_assign_22 N σ r1
    else
      (zf_M_cannot σ).bind fun r37 =>
      some (r37)
def zb_M_statement_402 (N : Nat) (σ : zS) (v1 : Int32) (s0 : Int32) : Option (zS) :=
  (zf_M_addStep N σ s0 0).bind fun r32 =>
  (zf_M_nextIfWell N r32.2).bind fun r33 =>
  (zf_M_threadNamed N r33).bind fun r34 =>
  if 0 ≤ (v1 + r32.1) ∧ (v1 + r32.1) < 96 then
    (zf_M_take N (zx_up r34.2 93 (v1 + r32.1).toNatClampNeg r34.1) 59).bind fun r36 =>
    some (r36)
  else none
def zb_M_statement_364 (N : Nat) (σ : zS) (v1 : Int32) (v2 : Int32) : Option (zS) :=
  (zf_M_lockNamed N σ).bind fun r42 =>
  if 0 ≤ (v1 + v2) ∧ (v1 + v2) < 96 then
    (zf_M_take N (zx_up r42.2 93 (v1 + v2).toNatClampNeg r42.1) 59).bind fun r44 =>
    some (r44)
  else none
def zb_M_statement_153 (N : Nat) (σ : zS) (v2 : Int32) : Option (zS) :=
  (zf_M_openBlock N σ 1 v2).bind fun r69 =>
  some (r69)
/-- RX12.statement [82] -/
def zf_M_statement (N : Nat) (σ : zS) : Option (zS) :=
  if ¬ (σ 82 7) = 2 then
    if (σ 82 7) = 5 then
      if (σ 82 8) = 3 then
        (zf_M_addStep N σ 3 0).bind fun r64 =>
        (zf_M_nextIfWell N r64.2).bind fun r65 =>
        (zf_M_lockNamed N r65).bind fun r66 =>
        if 0 ≤ ((24 * (σ 82 39)) + r64.1) ∧ ((24 * (σ 82 39)) + r64.1) < 96 then
          if ¬ (r66.2 82 9) = 0 then
            zb_M_statement_153 N (zx_up r66.2 93 ((24 * (σ 82 39)) + r64.1).toNatClampNeg r66.1) r64.1
          else
            if 0 ≤ ((24 * (σ 82 39)) + r64.1) ∧ ((24 * (σ 82 39)) + r64.1) < 96 then
              zb_M_statement_153 N (zx_up (zx_up r66.2 93 ((24 * (σ 82 39)) + r64.1).toNatClampNeg r66.1) 82 40 ((r66.2 82 40) ||| (zJ_shl 1 r66.1))) r64.1
            else none
        else none
      else
        if (σ 82 8) = 4 then
          (zf_M_cannot σ).bind fun r63 =>
          some (r63)
        else
          if (σ 82 8) = 5 then
            (zf_M_addStep N σ 5 (-1)).bind fun r59 =>
            (zf_M_nextIfWell N r59.2).bind fun r60 =>
            (zf_M_test N r60 r59.1).bind fun r61 =>
            (zf_M_openBlock N r61 3 r59.1).bind fun r62 =>
            some (r62)
          else
            if (σ 82 8) = 6 then
              (zf_M_cannot σ).bind fun r58 =>
              some (r58)
            else
              if (σ 82 8) = 7 then
                (zf_M_addStep N σ 6 (-1)).bind fun r54 =>
                (zf_M_nextIfWell N r54.2).bind fun r55 =>
                (zf_M_test N r55 r54.1).bind fun r56 =>
                (zf_M_openBlock N r56 5 r54.1).bind fun r57 =>
                some (r57)
              else
                if (σ 82 8) = 8 then
                  (zf_M_addStep N σ 7 0).bind fun r49 =>
                  (zf_M_nextIfWell N r49.2).bind fun r50 =>
                  (zf_M_lockNamed N r50).bind fun r51 =>
                  if 0 ≤ ((24 * (σ 82 39)) + r49.1) ∧ ((24 * (σ 82 39)) + r49.1) < 96 then
                    (zf_M_take N (zx_up r51.2 93 ((24 * (σ 82 39)) + r49.1).toNatClampNeg r51.1) 59).bind fun r53 =>
                    some (r53)
                  else none
                else
                  if (σ 82 8) = 9 then
                    (zf_M_addStep N σ 8 0).bind fun r39 =>
                    (zf_M_nextIfWell N r39.2).bind fun r40 =>
                    if ¬ (r40 82 9) = 0 then
                      zb_M_statement_364 N r40 (24 * (σ 82 39)) r39.1
                    else
                      (zf_M_isWord r40 10).bind fun r45 =>
                      if r45 = 0 then
                        zb_M_statement_364 N r40 (24 * (σ 82 39)) r39.1
                      else
                        if 0 ≤ ((24 * (σ 82 39)) + r39.1) ∧ ((24 * (σ 82 39)) + r39.1) < 96 then
                          (zf_M_next N (zx_up r40 92 ((24 * (σ 82 39)) + r39.1).toNatClampNeg 9)).bind fun r48 =>
                          zb_M_statement_364 N r48 (24 * (σ 82 39)) r39.1
                        else none
                  else
                    if (σ 82 8) = 10 then
                      (zf_M_cannot σ).bind fun r38 =>
                      some (r38)
                    else
                      if (σ 82 8) = 11 then
                        if ¬ (σ 82 8) = 11 then
                          zb_M_statement_402 N σ (24 * (σ 82 39)) 11
                        else
                          zb_M_statement_402 N σ (24 * (σ 82 39)) 10
                      else
                        if (σ 82 8) = 12 then
                          if ¬ (σ 82 8) = 11 then
                            zb_M_statement_402 N σ (24 * (σ 82 39)) 11
                          else
                            zb_M_statement_402 N σ (24 * (σ 82 39)) 10
                        else
                          if (σ 82 8) = 13 then
                            (zf_M_addStep N σ 12 (-1)).bind fun r27 =>
                            (zf_M_nextIfWell N r27.2).bind fun r28 =>
                            (zf_M_test N r28 r27.1).bind fun r29 =>
                            (zf_M_take N r29 59).bind fun r30 =>
                            some (r30)
                          else
                            if (σ 82 8) = 14 then
                              (zf_M_addStep N σ 13 (-1)).bind fun r24 =>
                              (zf_M_nextIfWell N r24.2).bind fun r25 =>
                              (zf_M_take N r25 59).bind fun r26 =>
                              some (r26)
                            else
                              if (σ 82 8) = 15 then
                                if (σ 82 41) = (-1) then
                                  if ¬ (σ 82 25) = 6 then
                                    (zf_M_next N σ).bind fun r19 =>
                                    (zf_M_openBlock N r19 2 0).bind fun r20 =>
                                    if 0 ≤ (r20 82 25) ∧ (r20 82 25) < 6 then
                                      some ((zx_up (zx_up (zx_up r20 82 41 (r20 82 25)) 91 (r20 82 25).toNatClampNeg (r20 82 39)) 82 25 ((r20 82 25) + 1)))
                                    else none
                                  else
                                    (zf_M_fail σ 4).bind fun r22 =>
                                    some (r22)
                                else
                                  (zf_M_cannot σ).bind fun r23 =>
                                  some (r23)
                              else
                                (zf_M_cannot σ).bind fun r16 =>
                                some (r16)
    else
      (zf_M_cannot σ).bind fun r71 =>
      some (r71)
  else
    (zf_M_assign N σ).bind fun r72 =>
    some (r72)
def zb_M_joinOpen_8 (N : Nat) : Nat → zS → Int32 → Int32 → Option (zS)
  | 0, _, _, _ => none
  | n + 1, σ, v1, v2 =>
    if 0 ≤ v2 ∧ v2 < 48 then
      if (σ 102 v2.toNatClampNeg) = (-1) then
        if 0 ≤ v2 ∧ v2 < 48 then
          some ((zx_up (zx_up σ 102 v2.toNatClampNeg (σ 82 37)) 82 37 v1))
        else none
      else
        if 0 ≤ v2 ∧ v2 < 48 then
          zb_M_joinOpen_8 N n σ v1 (σ 102 v2.toNatClampNeg)
        else none
    else none
/-- RX12.joinOpen [82] -/
def zf_M_joinOpen (N : Nat) (σ : zS) (x1 : Int32) : Option (zS) :=
  if ¬ x1 = (-1) then
    zb_M_joinOpen_8 N N σ x1 x1
  else
    some (σ)
def zb_M_closeBlock_177 (N : Nat) (σ : zS) (v1 : Int32) : Option (zS) :=
  (zf_M_next N (zx_up σ 82 46 ((σ 82 46) - 1))).bind fun r7 =>
  if 0 ≤ v1 ∧ v1 < 10 then
    if ¬ (r7 103 v1.toNatClampNeg) = 3 then
      some (r7)
    else
      (zf_M_isWord r7 6).bind fun r10 =>
      if r10 = 0 then
        if 0 ≤ v1 ∧ v1 < 10 then
          (zf_M_wayOf r7 (r7 104 v1.toNatClampNeg) 1).bind fun r13 =>
          (zf_M_joinOpen N r13.2 r13.1).bind fun r14 =>
          some (r14)
        else none
      else
        (zf_M_next N r7).bind fun r15 =>
        if 0 ≤ v1 ∧ v1 < 10 then
          (zf_M_wayOf r15 (r15 104 v1.toNatClampNeg) 1).bind fun r17 =>
          if 0 ≤ v1 ∧ v1 < 10 then
            (zf_M_openBlock N (zx_up r17.2 82 37 r17.1) 4 (r17.2 104 v1.toNatClampNeg)).bind fun r19 =>
            if 0 ≤ v1 ∧ v1 < 10 then
              some ((zx_up r19 105 v1.toNatClampNeg (r15 82 37)))
            else none
          else none
        else none
  else none
/-- RX12.closeBlock [82] -/
def zf_M_closeBlock (N : Nat) (σ : zS) : Option (zS) :=
  if 0 ≤ ((σ 82 46) - 1) ∧ ((σ 82 46) - 1) < 10 then
    if (σ 103 ((σ 82 46) - 1).toNatClampNeg) = 1 then
      if 0 ≤ ((σ 82 46) - 1) ∧ ((σ 82 46) - 1) < 10 then
        if 0 ≤ ((24 * (σ 82 39)) + (σ 104 ((σ 82 46) - 1).toNatClampNeg)) ∧ ((24 * (σ 82 39)) + (σ 104 ((σ 82 46) - 1).toNatClampNeg)) < 96 then
          (zf_M_addStep N σ 4 (σ 93 ((24 * (σ 82 39)) + (σ 104 ((σ 82 46) - 1).toNatClampNeg)).toNatClampNeg)).bind fun r29 =>
          if (r29.2 82 9) = 0 then
            if 0 ≤ ((σ 82 46) - 1) ∧ ((σ 82 46) - 1) < 10 then
              if 0 ≤ ((σ 82 46) - 1) ∧ ((σ 82 46) - 1) < 10 then
                if 0 ≤ ((24 * (σ 82 39)) + (r29.2 104 ((σ 82 46) - 1).toNatClampNeg)) ∧ ((24 * (σ 82 39)) + (r29.2 104 ((σ 82 46) - 1).toNatClampNeg)) < 96 then
                  if 0 ≤ ((σ 82 46) - 1) ∧ ((σ 82 46) - 1) < 10 then
                    if 0 ≤ ((24 * (σ 82 39)) + (r29.2 104 ((σ 82 46) - 1).toNatClampNeg)) ∧ ((24 * (σ 82 39)) + (r29.2 104 ((σ 82 46) - 1).toNatClampNeg)) < 96 then
                      zb_M_closeBlock_177 N (zx_up r29.2 82 40 (((r29.2 106 ((σ 82 46) - 1).toNatClampNeg) &&& ((zJ_shl 1 (r29.2 93 ((24 * (σ 82 39)) + (r29.2 104 ((σ 82 46) - 1).toNatClampNeg)).toNatClampNeg)) ^^^ (-1))) ||| (r29.2 96 ((24 * (σ 82 39)) + (r29.2 104 ((σ 82 46) - 1).toNatClampNeg)).toNatClampNeg))) ((σ 82 46) - 1)
                    else none
                  else none
                else none
              else none
            else none
          else
            some (r29.2)
        else none
      else none
    else
      if (σ 103 ((σ 82 46) - 1).toNatClampNeg) = 2 then
        zb_M_closeBlock_177 N (zx_up σ 82 41 (-1)) ((σ 82 46) - 1)
      else
        if (σ 103 ((σ 82 46) - 1).toNatClampNeg) = 3 then
          zb_M_closeBlock_177 N σ ((σ 82 46) - 1)
        else
          if (σ 103 ((σ 82 46) - 1).toNatClampNeg) = 4 then
            if 0 ≤ ((σ 82 46) - 1) ∧ ((σ 82 46) - 1) < 10 then
              (zf_M_joinOpen N σ (σ 105 ((σ 82 46) - 1).toNatClampNeg)).bind fun r26 =>
              zb_M_closeBlock_177 N r26 ((σ 82 46) - 1)
            else none
          else
            if (σ 103 ((σ 82 46) - 1).toNatClampNeg) = 5 then
              if 0 ≤ ((σ 82 46) - 1) ∧ ((σ 82 46) - 1) < 10 then
                (zf_M_lead N σ (σ 104 ((σ 82 46) - 1).toNatClampNeg)).bind fun r22 =>
                if 0 ≤ ((σ 82 46) - 1) ∧ ((σ 82 46) - 1) < 10 then
                  (zf_M_wayOf r22 (r22 104 ((σ 82 46) - 1).toNatClampNeg) 1).bind fun r24 =>
                  zb_M_closeBlock_177 N (zx_up r24.2 82 37 r24.1) ((σ 82 46) - 1)
                else none
              else none
            else
              zb_M_closeBlock_177 N σ ((σ 82 46) - 1)
  else none
def zb_M_readThread_235 (k178 : zS → Int32 → Option (zS)) (N : Nat) (σ : zS) (v1 : Int32) (s0 : Int32) (s1 : Int32) : Option (zS) :=
  if 0 ≤ s1 ∧ s1 < 96 then
    k178 (zx_up σ 94 s1.toNatClampNeg s0) (v1 + 1)
  else none
def zb_M_readThread_178 (N : Nat) : Nat → zS → Int32 → Option (zS)
  | 0, _, _ => none
  | n + 1, σ, v1 =>
    if 0 ≤ (σ 82 39) ∧ (σ 82 39) < 4 then
      if (σ 90 (σ 82 39).toNatClampNeg) ≤ v1 then
        some (σ)
      else
        if 0 ≤ ((24 * (σ 82 39)) + v1) ∧ ((24 * (σ 82 39)) + v1) < 96 then
          if ¬ (σ 92 ((24 * (σ 82 39)) + v1).toNatClampNeg) = 13 then
            if 0 ≤ ((24 * (σ 82 39)) + v1) ∧ ((24 * (σ 82 39)) + v1) < 96 then
              zb_M_readThread_235 (zb_M_readThread_178 N n) N σ v1 (σ 94 ((24 * (σ 82 39)) + v1).toNatClampNeg) ((24 * (σ 82 39)) + v1)
            else none
          else
            if 0 ≤ (σ 82 39) ∧ (σ 82 39) < 4 then
              zb_M_readThread_235 (zb_M_readThread_178 N n) N σ v1 (σ 90 (σ 82 39).toNatClampNeg) ((24 * (σ 82 39)) + v1)
            else none
        else none
    else none
def zb_M_readThread_155 (N : Nat) (σ : zS) : Option (zS) :=
  if (σ 82 9) = 0 then
    if 0 ≤ (σ 82 39) ∧ (σ 82 39) < 4 then
      (zf_M_lead N σ (σ 90 (σ 82 39).toNatClampNeg)).bind fun r13 =>
      zb_M_readThread_178 N N r13 0
    else none
  else
    some (σ)
def zb_M_readThread_118 (N : Nat) : Nat → zS → Option (zS)
  | 0, _ => none
  | n + 1, σ =>
    if ¬ (σ 82 9) = 0 then
      zb_M_readThread_155 N σ
    else
      if (σ 82 46) ≤ 0 then
        zb_M_readThread_155 N σ
      else
        (zf_M_isSign σ 125).bind fun r22 =>
        if r22 = 0 then
          (zf_M_statement N σ).bind fun r24 =>
          zb_M_readThread_118 N n r24
        else
          (zf_M_closeBlock N σ).bind fun r25 =>
          zb_M_readThread_118 N n r25
/-- RX12.readThread [82] -/
def zf_M_readThread (N : Nat) (σ : zS) : Option (zS) :=
  (zf_M_next N σ).bind fun r1 =>
  if (r1 82 7) = 2 then
    (zf_M_isTold N r1).bind fun r3 =>
    if r3 = 0 then
      if ¬ (r1 82 17) = 4 then
        (zf_M_call N r1 (10 + (r1 82 17))).bind fun r6 =>
        (zf_M_next N (zx_up (zx_up r6 82 39 (r6 82 17)) 82 17 ((r6 82 17) + 1))).bind fun r7 =>
        if 0 ≤ (r7 82 39) ∧ (r7 82 39) < 4 then
          (zf_M_openBlock N (zx_up (zx_up (zx_up (zx_up (zx_up (zx_up r7 90 (r7 82 39).toNatClampNeg 0) 82 18 0) 82 46 0) 82 40 0) 82 41 (-1)) 82 37 (-1)) 0 0).bind fun r9 =>
          zb_M_readThread_118 N N r9
        else none
      else
        (zf_M_fail r1 4).bind fun r26 =>
        some (r26)
    else
      (zf_M_fail r1 3).bind fun r27 =>
      some (r27)
  else
    (zf_M_cannot r1).bind fun r28 =>
    some (r28)
/-- RX12.readTold [82] -/
def zf_M_readTold (N : Nat) (σ : zS) (x1 : Int32) (x2 : Int32) (x3 : Int32) : Option (zS) :=
  if (σ 82 7) = 2 then
    (zf_M_isTold N σ).bind fun r2 =>
    if r2 = 0 then
      if ¬ x2 = x3 then
        (zf_M_call N σ (x1 + x2)).bind fun r5 =>
        (zf_M_next N r5).bind fun r6 =>
        some (r6)
      else
        (zf_M_fail σ 4).bind fun r7 =>
        some (r7)
    else
      (zf_M_fail σ 3).bind fun r8 =>
      some (r8)
  else
    (zf_M_cannot σ).bind fun r9 =>
    some (r9)
def zb_M_readField_86 (N : Nat) (σ : zS) : Option (zS) :=
  (zf_M_take N (zx_up σ 82 15 ((σ 82 15) + 1)) 59).bind fun r8 =>
  some (r8)
/-- RX12.readField [82] -/
def zf_M_readField (N : Nat) (σ : zS) (x1 : Int32) : Option (zS) :=
  (zf_M_next N σ).bind fun r1 =>
  (zf_M_readTold N r1 0 (r1 82 15) 6).bind fun r2 =>
  if (r2 82 9) = 0 then
    if 0 ≤ (r2 82 15) ∧ (r2 82 15) < 6 then
      if 0 ≤ (r2 82 15) ∧ (r2 82 15) < 6 then
        (zf_M_isSign (zx_up (zx_up r2 88 (r2 82 15).toNatClampNeg (x1 &&& 1)) 89 (r2 82 15).toNatClampNeg 0) 61).bind fun r6 =>
        if r6 = 0 then
          zb_M_readField_86 N (zx_up (zx_up r2 88 (r2 82 15).toNatClampNeg (x1 &&& 1)) 89 (r2 82 15).toNatClampNeg 0)
        else
          (zf_M_next N (zx_up (zx_up r2 88 (r2 82 15).toNatClampNeg (x1 &&& 1)) 89 (r2 82 15).toNatClampNeg 0)).bind fun r9 =>
          if 0 ≤ (r9 82 15) ∧ (r9 82 15) < 6 then
            if (r9 82 7) = 3 then
              (zf_M_next N (zx_up r9 89 (r9 82 15).toNatClampNeg (r9 82 8))).bind fun r12 =>
              zb_M_readField_86 N r12
            else
              (zf_M_cannot (zx_up r9 89 (r9 82 15).toNatClampNeg (r9 82 8))).bind fun r13 =>
              some (r13)
          else none
      else none
    else none
  else
    some (r2)
def zb_M_read_268 (N : Nat) (σ : zS) (s0 : Int32) : Option (Int32 × zS) :=
  if s0 = 0 ∨ s0 = 1 then
    if (σ 82 9) = 0 then
      (zf_M_allSteps N (zx_up (zx_up σ 82 21 s0) 82 12 (σ 82 10))).bind fun r10 =>
      some (r10, (zx_up (zx_up σ 82 21 s0) 82 12 (σ 82 10)))
    else
      some (((-1000) - (σ 82 11)), (zx_up (zx_up σ 82 21 s0) 82 12 (σ 82 10)))
  else none
def zb_M_read_255 (N : Nat) (σ : zS) : Option (Int32 × zS) :=
  if ¬ (σ 82 9) = 0 then
    zb_M_read_268 N σ 0
  else
    zb_M_read_268 N σ 1
def zb_M_read_244 (N : Nat) (σ : zS) : Option (Int32 × zS) :=
  if ¬ (σ 82 9) = 0 then
    zb_M_read_255 N σ
  else
    (zf_M_findLaters N σ).bind fun r11 =>
    zb_M_read_255 N r11
def zb_M_read_226 (N : Nat) (σ : zS) : Option (Int32 × zS) :=
  if ¬ (σ 82 9) = 0 then
    zb_M_read_244 N σ
  else
    if (σ 82 7) = 0 then
      zb_M_read_244 N σ
    else
      (zf_M_cannot σ).bind fun r13 =>
      zb_M_read_244 N r13
def zb_M_read_204 (N : Nat) : Nat → zS → Option (Int32 × zS)
  | 0, _ => none
  | n + 1, σ =>
    if ¬ (σ 82 9) = 0 then
      zb_M_read_226 N σ
    else
      (zf_M_isWord σ 4).bind fun r14 =>
      if r14 = 0 then
        zb_M_read_226 N σ
      else
        (zf_M_readThread N σ).bind fun r16 =>
        zb_M_read_204 N n r16
def zb_M_read_180 (k105 : zS → Option (Int32 × zS)) (N : Nat) (σ : zS) (s0 : Int32) : Option (Int32 × zS) :=
  (zf_M_take N (zx_up σ 82 16 s0) 59).bind fun r26 =>
  k105 r26
def zb_M_read_136 (k105 : zS → Option (Int32 × zS)) (N : Nat) (σ : zS) : Option (Int32 × zS) :=
  (zf_M_isWord σ 3).bind fun r19 =>
  if r19 = 0 then
    (zf_M_isWord σ 2).bind fun r21 =>
    (zf_M_readField N σ r21).bind fun r22 =>
    k105 r22
  else
    (zf_M_next N σ).bind fun r23 =>
    (zf_M_readTold N r23 6 (r23 82 16) 4).bind fun r24 =>
    if (r24 82 9) = 0 then
      zb_M_read_180 k105 N r24 ((r24 82 16) + 1)
    else
      zb_M_read_180 k105 N r24 (r24 82 16)
def zb_M_read_105 (N : Nat) : Nat → zS → Option (Int32 × zS)
  | 0, _ => none
  | n + 1, σ =>
    if ¬ (σ 82 9) = 0 then
      zb_M_read_204 N N σ
    else
      (zf_M_isWord σ 1).bind fun r17 =>
      if ¬ r17 = 0 then
        zb_M_read_136 (zb_M_read_105 N n) N σ
      else
        (zf_M_isWord σ 2).bind fun r27 =>
        if ¬ r27 = 0 then
          zb_M_read_136 (zb_M_read_105 N n) N σ
        else
          (zf_M_isWord σ 3).bind fun r29 =>
          if r29 = 0 then
            zb_M_read_204 N N σ
          else
            zb_M_read_136 (zb_M_read_105 N n) N σ
def zb_M_read_20 (N : Nat) : Nat → zS → Int32 → Option (Int32 × zS)
  | 0, _, _ => none
  | n + 1, σ, v1 =>
    if (σ 82 4) ≤ v1 then
      (zf_M_next N (zx_up (zx_up (zx_up (zx_up (zx_up (zx_up (zx_up (zx_up (zx_up (zx_up (zx_up σ 82 9 0) 82 10 0) 82 15 0) 82 16 0) 82 17 0) 82 25 0) 82 19 0) 82 5 0) 82 6 0) 82 53 0) 82 62 (-1))).bind fun r2 =>
      zb_M_read_105 N N r2
    else
      if 0 ≤ v1 ∧ v1 < 1500 then
        if 0 ≤ v1 ∧ v1 < 1500 then
          zb_M_read_20 N n (zx_up σ 84 v1.toNatClampNeg (zJ_byte (σ 83 v1.toNatClampNeg))) (v1 + 1)
        else none
      else none
/-- RX12.read [82] -/
def zf_M_read (N : Nat) (σ : zS) : Option (Int32 × zS) :=
  zb_M_read_20 N N (zx_up (zx_up (zx_up σ 82 0 0) 82 4 (σ 82 2)) 82 2 0) 0
/-- RX11.fault [2] -/
def zf_X_fault (σ : zS) : Option (Int32) :=
  some ((σ 2 12))
/-- RX12.fault [82] -/
def zf_M_fault (σ : zS) : Option (Int32 × zS) :=
  some ((σ 82 12), (zx_up σ 82 0 0))
/-- RX11.count [2] -/
def zf_X_count (σ : zS) (x1 : Int32) : Option (Int32) :=
  if ¬ (σ 2 13) = 0 then
    if x1 = 0 then
      some ((σ 4 0))
    else
      if x1 = 1 then
        some ((σ 4 1))
      else
        if x1 = 2 then
          some ((σ 4 2))
        else
          if x1 = 3 then
            some ((σ 4 3))
          else
            if x1 = 4 then
              some ((σ 4 4))
            else
              some ((-102))
  else
    some ((-101))
/-- RX12.count [82] -/
def zf_M_count (N : Nat) (σ : zS) (x1 : Int32) : Option (Int32 × zS) :=
  if ¬ (σ 82 21) = 0 then
    if x1 = 0 then
      some ((σ 82 15), (zx_up σ 82 0 0))
    else
      if x1 = 1 then
        some ((σ 82 16), (zx_up σ 82 0 0))
      else
        if x1 = 2 then
          some ((σ 82 17), (zx_up σ 82 0 0))
        else
          if x1 = 3 then
            some ((σ 82 25), (zx_up σ 82 0 0))
          else
            if x1 = 4 then
              (zf_M_allSteps N (zx_up σ 82 0 0)).bind fun r7 =>
              some (r7, (zx_up σ 82 0 0))
            else
              some ((-102), (zx_up σ 82 0 0))
  else
    some ((-101), (zx_up σ 82 0 0))
/-- RX11.step [2] -/
def zf_X_step (σ : zS) (x1 : Int32) (x2 : Int32) (x3 : Int32) : Option (Int32) :=
  if ¬ (σ 2 13) = 0 then
    (zf_Program_slotOf σ x1 x2).bind fun r2 =>
    if ¬ r2 = 96 then
      if x3 = 0 then
        if 0 ≤ r2 ∧ r2 < 97 then
          some ((σ 7 r2.toNatClampNeg))
        else none
      else
        if x3 = 1 then
          if 0 ≤ r2 ∧ r2 < 97 then
            some ((σ 8 r2.toNatClampNeg))
          else none
        else
          if x3 = 2 then
            if 0 ≤ r2 ∧ r2 < 97 then
              some ((σ 9 r2.toNatClampNeg))
            else none
          else
            if x3 = 3 then
              if 0 ≤ r2 ∧ r2 < 97 then
                some ((σ 10 r2.toNatClampNeg))
              else none
            else
              if x3 = 4 then
                if 0 ≤ r2 ∧ r2 < 97 then
                  some ((σ 11 r2.toNatClampNeg))
                else none
              else
                if x3 = 5 then
                  if 0 ≤ r2 ∧ r2 < 97 then
                    some ((σ 12 r2.toNatClampNeg))
                  else none
                else
                  some ((-102))
    else
      some ((-102))
  else
    some ((-101))
/-- RX12.isStep [82] -/
def zf_M_isStep (σ : zS) (x1 : Int32) (x2 : Int32) : Option (Int32) :=
  (zf_M_in σ x1 0 ((σ 82 17) - 1)).bind fun r1 =>
  if r1 = 0 then
    some (0)
  else
    if 0 ≤ x1 ∧ x1 < 4 then
      (zf_M_in σ x2 0 ((σ 90 x1.toNatClampNeg) - 1)).bind fun r4 =>
      if r4 = 0 then
        some (0)
      else
        some (1)
    else none
def zb_M_step_192 (σ : zS) (v4 : Int32) : Option (Int32 × zS) :=
  if 0 ≤ v4 ∧ v4 < 96 then
    some ((σ 95 v4.toNatClampNeg), σ)
  else none
def zb_M_step_93 (σ : zS) (v3 : Int32) (v4 : Int32) (s0 : Int32) : Option (Int32 × zS) :=
  if v3 = 0 then
    if 0 ≤ v4 ∧ v4 < 96 then
      some ((σ 92 v4.toNatClampNeg), σ)
    else none
  else
    if v3 = 1 then
      if s0 = 0 then
        some ((-1), σ)
      else
        if 0 ≤ v4 ∧ v4 < 96 then
          some ((σ 93 v4.toNatClampNeg), σ)
        else none
    else
      if v3 = 2 then
        if 0 ≤ v4 ∧ v4 < 96 then
          some ((σ 94 v4.toNatClampNeg), σ)
        else none
      else
        if v3 = 3 then
          if 0 ≤ v4 ∧ v4 < 96 then
            if (σ 92 v4.toNatClampNeg) = 5 then
              zb_M_step_192 σ v4
            else
              if 0 ≤ v4 ∧ v4 < 96 then
                if ¬ (σ 92 v4.toNatClampNeg) = 6 then
                  some ((-1), σ)
                else
                  zb_M_step_192 σ v4
              else none
          else none
        else
          if v3 = 4 then
            if 0 ≤ v4 ∧ v4 < 96 then
              some ((σ 96 v4.toNatClampNeg), σ)
            else none
          else
            if v3 = 5 then
              if 0 ≤ v4 ∧ v4 < 96 then
                some ((σ 97 v4.toNatClampNeg), σ)
              else none
            else
              some ((-102), σ)
def zb_M_step_88 (σ : zS) (v3 : Int32) (v4 : Int32) : Option (Int32 × zS) :=
  zb_M_step_93 σ v3 v4 1
/-- RX12.step [82] -/
def zf_M_step (σ : zS) (x1 : Int32) (x2 : Int32) (x3 : Int32) : Option (Int32 × zS) :=
  if ¬ (σ 82 21) = 0 then
    (zf_M_isStep (zx_up σ 82 0 0) x1 x2).bind fun r2 =>
    if ¬ r2 = 0 then
      if 0 ≤ ((24 * x1) + x2) ∧ ((24 * x1) + x2) < 96 then
        if (σ 92 ((24 * x1) + x2).toNatClampNeg) = 0 then
          zb_M_step_88 (zx_up σ 82 0 0) x3 ((24 * x1) + x2)
        else
          if 0 ≤ ((24 * x1) + x2) ∧ ((24 * x1) + x2) < 96 then
            if (σ 92 ((24 * x1) + x2).toNatClampNeg) = 1 then
              zb_M_step_88 (zx_up σ 82 0 0) x3 ((24 * x1) + x2)
            else
              if 0 ≤ ((24 * x1) + x2) ∧ ((24 * x1) + x2) < 96 then
                (zf_M_in (zx_up σ 82 0 0) (σ 92 ((24 * x1) + x2).toNatClampNeg) 3 4).bind fun r26 =>
                if ¬ r26 = 0 then
                  zb_M_step_88 (zx_up σ 82 0 0) x3 ((24 * x1) + x2)
                else
                  if 0 ≤ ((24 * x1) + x2) ∧ ((24 * x1) + x2) < 96 then
                    (zf_M_in (zx_up σ 82 0 0) (σ 92 ((24 * x1) + x2).toNatClampNeg) 7 11).bind fun r29 =>
                    if r29 = 0 then
                      zb_M_step_93 (zx_up σ 82 0 0) x3 ((24 * x1) + x2) 0
                    else
                      zb_M_step_88 (zx_up σ 82 0 0) x3 ((24 * x1) + x2)
                  else none
              else none
          else none
      else none
    else
      some ((-102), (zx_up σ 82 0 0))
  else
    some ((-101), (zx_up σ 82 0 0))
def zb_Arrays_fill_c3_5 (N : Nat) : Nat → zS → Int32 → Int32 → Int32 → Option (zS)
  | 0, _, _, _, _ => none
  | n + 1, σ, v1, v2, v3 =>
    if v3 ≤ v2 then
      some (σ)
    else
      if 0 ≤ v2 ∧ v2 < 8192 then
        zb_Arrays_fill_c3_5 N n (zx_up σ 45 v2.toNatClampNeg v1) v1 (v2 + 1) v3
      else none
/-- RJ7.fill [45] -/
def zf_Arrays_fill_c3 (N : Nat) (σ : zS) (x2 : Int32) : Option (zS) :=
  zb_Arrays_fill_c3_5 N N σ x2 0 8192
/-- RX6.startersOf [4] -/
def zf_Program_startersOf (σ : zS) (x1 : Int32) : Option (Int32) :=
  if x1 < 0 then
    some (0)
  else
    if 4 ≤ x1 then
      some (0)
    else
      if 0 ≤ x1 ∧ x1 < 4 then
        some ((σ 6 x1.toNatClampNeg))
      else none
def zb_Machine_setFirst_50 (k15 : zS → Int32 → Option (zS)) (N : Nat) (σ : zS) (v1 : Int32) (v2 : Int32) : Option (zS) :=
  if 0 ≤ (v1 + 1) ∧ (v1 + 1) < 5 then
    k15 (zx_up σ 40 (v1 + 1).toNatClampNeg (zJ_shl v2 14)) (v1 + 1)
  else none
def zb_Machine_setFirst_36 (k15 : zS → Int32 → Option (zS)) (N : Nat) (σ : zS) (v1 : Int32) (s0 : Int32) : Option (zS) :=
  (zf_Program_startersOf σ v1).bind fun r4 =>
  if r4 = 0 then
    zb_Machine_setFirst_50 k15 N σ v1 s0
  else
    zb_Machine_setFirst_50 k15 N σ v1 0
def zb_Machine_setFirst_15 (N : Nat) : Nat → zS → Int32 → Option (zS)
  | 0, _, _ => none
  | n + 1, σ, v1 =>
    if 4 ≤ v1 then
      some (σ)
    else
      (zf_Program_lengthOf σ v1).bind fun r2 =>
      if ¬ r2 = 0 then
        zb_Machine_setFirst_36 (zb_Machine_setFirst_15 N n) N σ v1 1
      else
        zb_Machine_setFirst_36 (zb_Machine_setFirst_15 N n) N σ v1 4
/-- RX2.setFirst [35] -/
def zf_Machine_setFirst (N : Nat) (σ : zS) : Option (zS) :=
  zb_Machine_setFirst_15 N N (zx_up σ 40 0 (σ 4 5)) 0
/-- RX8.has [41] -/
def zf_Space_has (σ : zS) (x1 : Int32) : Option (Int32) :=
  if x1 < 0 then
    some (0)
  else
    if (σ 41 6) ≤ x1 then
      some (0)
    else
      if 4000 ≤ x1 then
        some (0)
      else
        some (1)
def zb_Space_isComing_2 (N : Nat) : Nat → zS → Int32 → Int32 → Option (Int32)
  | 0, _, _, _ => none
  | n + 1, σ, v1, v2 =>
    if 5 ≤ v2 then
      some (1)
    else
      (zf_Space_has σ v1).bind fun r2 =>
      if r2 = 0 then
        some (1)
      else
        if 0 ≤ ((v1 * 5) + v2) ∧ ((v1 * 5) + v2) < 20000 then
          if 0 ≤ v2 ∧ v2 < 5 then
            if (σ 42 ((v1 * 5) + v2).toNatClampNeg) = (σ 40 v2.toNatClampNeg) then
              zb_Space_isComing_2 N n σ v1 (v2 + 1)
            else
              some (0)
          else none
        else none
/-- RX8.isComing [41] -/
def zf_Space_isComing (N : Nat) (σ : zS) (x1 : Int32) : Option (Int32) :=
  zb_Space_isComing_2 N N σ x1 0
def zb_Space_slotOfComing_45 (N : Nat) : Nat → zS → Int32 → Int32 → Option (Int32)
  | 0, _, _, _ => none
  | n + 1, σ, v2, v3 =>
    if 8192 ≤ v3 then
      some (v2)
    else
      if 0 ≤ v2 ∧ v2 < 8192 then
        if (σ 45 v2.toNatClampNeg) = 0 then
          some (v2)
        else
          if 0 ≤ v2 ∧ v2 < 8192 then
            (zf_Space_isComing N σ ((σ 45 v2.toNatClampNeg) - 1)).bind fun r6 =>
            if r6 = 0 then
              zb_Space_slotOfComing_45 N n σ ((v2 + 1) &&& 8191) (v3 + 1)
            else
              some (v2)
          else none
      else none
def zb_Space_slotOfComing_4 (N : Nat) : Nat → zS → Int32 → Int32 → Option (Int32)
  | 0, _, _, _ => none
  | n + 1, σ, v1, v2 =>
    if 5 ≤ v2 then
      zb_Space_slotOfComing_45 N N σ (v1 &&& 8191) 0
    else
      if 0 ≤ v2 ∧ v2 < 5 then
        zb_Space_slotOfComing_4 N n σ (((v1 ^^^ (σ 40 v2.toNatClampNeg)) * (-1640531535)) ^^^ (zJ_ushr ((v1 ^^^ (σ 40 v2.toNatClampNeg)) * (-1640531535)) 15)) (v2 + 1)
      else none
/-- RX8.slotOfComing [41] -/
def zf_Space_slotOfComing (N : Nat) (σ : zS) : Option (Int32) :=
  zb_Space_slotOfComing_4 N N σ 0 0
/-- RX8.note [41] -/
def zf_Space_note (N : Nat) (σ : zS) (x1 : Int32) : Option (Int32 × zS) :=
  (zf_Space_slotOfComing N σ).bind fun r1 =>
  if 0 ≤ r1 ∧ r1 < 8192 then
    if (σ 45 r1.toNatClampNeg) = 0 then
      if (σ 41 6) < 0 then
        some (0, σ)
      else
        if (σ 41 6) < 4000 then
          if 0 ≤ ((σ 41 6) * 5) ∧ ((σ 41 6) * 5) ≤ 19995 then
            if 0 ≤ ((zJ_copy σ 40 42 0 ((σ 41 6) * 5) 5) 41 6) ∧ ((zJ_copy σ 40 42 0 ((σ 41 6) * 5) 5) 41 6) < 4000 then
              if 0 ≤ r1 ∧ r1 < 8192 then
                some (1, (zx_up (zx_up (zx_up (zJ_copy σ 40 42 0 ((σ 41 6) * 5) 5) 43 ((zJ_copy σ 40 42 0 ((σ 41 6) * 5) 5) 41 6).toNatClampNeg x1) 41 6 (((zJ_copy σ 40 42 0 ((σ 41 6) * 5) 5) 41 6) + 1)) 45 r1.toNatClampNeg (((zJ_copy σ 40 42 0 ((σ 41 6) * 5) 5) 41 6) + 1)))
              else none
            else none
          else none
        else
          some (0, σ)
    else
      some (1, σ)
  else none
def zb_Arrays_fill_c4_5 (N : Nat) : Nat → zS → Int32 → Int32 → Int32 → Option (zS)
  | 0, _, _, _, _ => none
  | n + 1, σ, v1, v2, v3 =>
    if v3 ≤ v2 then
      some (σ)
    else
      if 0 ≤ v2 ∧ v2 < 4 then
        zb_Arrays_fill_c4_5 N n (zx_up σ 38 v2.toNatClampNeg v1) v1 (v2 + 1) v3
      else none
/-- RJ7.fill [38] -/
def zf_Arrays_fill_c4 (N : Nat) (σ : zS) (x2 : Int32) : Option (zS) :=
  zb_Arrays_fill_c4_5 N N σ x2 0 4
/-- RX2.slotOf [35] -/
def zf_Machine_slotOf (σ : zS) (x1 : Int32) : Option (Int32) :=
  if x1 < 0 then
    some (96)
  else
    if 4 ≤ x1 then
      some (96)
    else
      if 0 ≤ x1 ∧ x1 < 4 then
        some ((σ 37 x1.toNatClampNeg))
      else none
/-- RX2.howOf [35] -/
def zf_Machine_howOf (σ : zS) (x1 : Int32) : Option (Int32) :=
  if x1 < 0 then
    some ((-1))
  else
    if 4 ≤ x1 then
      some ((-1))
    else
      if 0 ≤ x1 ∧ x1 < 4 then
        some ((σ 36 x1.toNatClampNeg))
      else none
/-- RX2.locksOf [35] -/
def zf_Machine_locksOf (σ : zS) (x1 : Int32) : Option (Int32) :=
  (zf_Machine_slotOf σ x1).bind fun r1 =>
  (zf_Machine_howOf σ x1).bind fun r2 =>
  if r2 = 1 then
    if 0 ≤ r1 ∧ r1 < 97 then
      some ((σ 11 r1.toNatClampNeg))
    else none
  else
    if r2 = 2 then
      if 0 ≤ r1 ∧ r1 < 97 then
        if 0 ≤ r1 ∧ r1 < 97 then
          some (((σ 11 r1.toNatClampNeg) &&& ((zJ_shl 1 (σ 8 r1.toNatClampNeg)) ^^^ (-1))))
        else none
      else none
    else
      if r2 = 3 then
        if 0 ≤ r1 ∧ r1 < 97 then
          if 0 ≤ r1 ∧ r1 < 97 then
            some (((σ 11 r1.toNatClampNeg) &&& ((zJ_shl 1 (σ 8 r1.toNatClampNeg)) ^^^ (-1))))
          else none
        else none
      else
        some (0)
def zb_Machine_load_130 (k34 : zS → Int32 → Option (zS)) (N : Nat) (σ : zS) (v3 : Int32) : Option (zS) :=
  k34 σ (v3 + 1)
def zb_Machine_load_124 (k95 : zS → Int32 → Int32 → Int32 → Option (zS)) (N : Nat) (σ : zS) (v3 : Int32) (v5 : Int32) (v6 : Int32) : Option (zS) :=
  k95 σ v3 v5 (v6 + 1)
def zb_Machine_load_95 (k34 : zS → Int32 → Option (zS)) (N : Nat) : Nat → zS → Int32 → Int32 → Int32 → Option (zS)
  | 0, _, _, _, _ => none
  | n + 1, σ, v3, v5, v6 =>
    if 4 ≤ v6 then
      zb_Machine_load_130 k34 N σ v3
    else
      if v5 = 0 then
        zb_Machine_load_130 k34 N σ v3
      else
        if ((zJ_ushr v5 v6) &&& 1) = 0 then
          zb_Machine_load_124 (zb_Machine_load_95 k34 N n) N σ v3 v5 v6
        else
          if 0 ≤ v6 ∧ v6 < 4 then
            zb_Machine_load_124 (zb_Machine_load_95 k34 N n) N (zx_up σ 38 v6.toNatClampNeg v3) v3 v5 v6
          else none
def zb_Machine_load_34 (N : Nat) : Nat → zS → Int32 → Option (zS)
  | 0, _, _ => none
  | n + 1, σ, v3 =>
    if 4 ≤ v3 then
      some (σ)
    else
      if 0 ≤ (v3 + 1) ∧ (v3 + 1) < 5 then
        if 0 ≤ v3 ∧ v3 < 4 then
          (zf_Program_slotOf (zx_up σ 36 v3.toNatClampNeg ((zJ_ushr (σ 39 (v3 + 1).toNatClampNeg) 14) &&& 7)) v3 ((zJ_ushr (σ 39 (v3 + 1).toNatClampNeg) 9) &&& 31)).bind fun r8 =>
          if 0 ≤ v3 ∧ v3 < 4 then
            (zf_Machine_locksOf (zx_up (zx_up σ 36 v3.toNatClampNeg ((zJ_ushr (σ 39 (v3 + 1).toNatClampNeg) 14) &&& 7)) 37 v3.toNatClampNeg r8) v3).bind fun r10 =>
            zb_Machine_load_95 (zb_Machine_load_34 N n) N N (zx_up (zx_up σ 36 v3.toNatClampNeg ((zJ_ushr (σ 39 (v3 + 1).toNatClampNeg) 14) &&& 7)) 37 v3.toNatClampNeg r8) v3 r10 0
          else none
        else none
      else none
/-- RX2.load [35, 42] -/
def zf_Machine_load (N : Nat) (σ : zS) (x2 : Int32) : Option (zS) :=
  if x2 < 0 then
    some (σ)
  else
    if (x2 + 5) ≤ 20000 then
      if 0 ≤ x2 ∧ x2 ≤ 19995 then
        (zf_Arrays_fill_c4 N (zJ_copy σ 42 39 x2 0 5) (-1)).bind fun r4 =>
        zb_Machine_load_34 N N r4 0
      else none
    else
      some (σ)
/-- RX8.load [41] -/
def zf_Space_load (N : Nat) (σ : zS) (x1 : Int32) : Option (zS) :=
  (zf_Space_has σ x1).bind fun r1 =>
  if r1 = 0 then
    some (σ)
  else
    (zf_Machine_load N σ (x1 * 5)).bind fun r3 =>
    some (r3)
/-- RX2.wordOf [35] -/
def zf_Machine_wordOf (σ : zS) (x1 : Int32) : Option (Int32) :=
  if x1 < 0 then
    some (0)
  else
    if 4 ≤ x1 then
      some (0)
    else
      if 0 ≤ (x1 + 1) ∧ (x1 + 1) < 5 then
        some ((σ 39 (x1 + 1).toNatClampNeg))
      else none
/-- RX2.ownerOf [35] -/
def zf_Machine_ownerOf (σ : zS) (x1 : Int32) : Option (Int32) :=
  if x1 < 0 then
    some ((-1))
  else
    if 4 ≤ x1 then
      some ((-1))
    else
      if 0 ≤ x1 ∧ x1 < 4 then
        some ((σ 38 x1.toNatClampNeg))
      else none
def zb_Machine_canMove_134 (σ : zS) : Option (Int32) :=
  some (1)
def zb_Machine_canMove_108 (σ : zS) : Option (Int32) :=
  some (1)
/-- RX2.canMove [35] -/
def zf_Machine_canMove (σ : zS) (x1 : Int32) : Option (Int32) :=
  (zf_Machine_howOf σ x1).bind fun r1 =>
  (zf_Machine_slotOf σ x1).bind fun r2 =>
  if 0 ≤ r2 ∧ r2 < 97 then
    if ¬ r1 = 3 then
      if r1 = 1 then
        if 0 ≤ r2 ∧ r2 < 97 then
          if (σ 7 r2.toNatClampNeg) = 3 then
            (zf_Machine_ownerOf σ (σ 8 r2.toNatClampNeg)).bind fun r13 =>
            if r13 = (-1) then
              zb_Machine_canMove_108 σ
            else
              (zf_Machine_ownerOf σ (σ 8 r2.toNatClampNeg)).bind fun r15 =>
              if ¬ r15 = x1 then
                some (0)
              else
                zb_Machine_canMove_108 σ
          else
            if (σ 7 r2.toNatClampNeg) = 11 then
              (zf_Machine_howOf σ (σ 8 r2.toNatClampNeg)).bind fun r9 =>
              if r9 = 4 then
                zb_Machine_canMove_134 σ
              else
                (zf_Machine_howOf σ (σ 8 r2.toNatClampNeg)).bind fun r11 =>
                if ¬ r11 = 5 then
                  some (0)
                else
                  zb_Machine_canMove_134 σ
            else
              some (1)
        else none
      else
        some (0)
    else
      (zf_Machine_ownerOf σ (σ 8 r2.toNatClampNeg)).bind fun r17 =>
      if ¬ r17 = (-1) then
        some (0)
      else
        some (1)
  else none
def zb_Machine_aloneIn_77 (k2 : zS → Int32 → Int32 → Option (Int32)) (N : Nat) (σ : zS) (v1 : Int32) (v2 : Int32) : Option (Int32) :=
  k2 σ v1 (v2 + 1)
def zb_Machine_aloneIn_62 (k2 : zS → Int32 → Int32 → Option (Int32)) (N : Nat) (σ : zS) (v1 : Int32) (v2 : Int32) (s0 : Int32) : Option (Int32) :=
  if s0 = 0 then
    zb_Machine_aloneIn_77 k2 N σ v1 v2
  else
    (zf_Machine_canMove σ v2).bind fun r6 =>
    if r6 = 0 then
      zb_Machine_aloneIn_77 k2 N σ v1 v2
    else
      some (v2)
def zb_Machine_aloneIn_61 (k2 : zS → Int32 → Int32 → Option (Int32)) (N : Nat) (σ : zS) (v1 : Int32) (v2 : Int32) : Option (Int32) :=
  zb_Machine_aloneIn_62 k2 N σ v1 v2 0
def zb_Machine_aloneIn_2 (N : Nat) : Nat → zS → Int32 → Int32 → Option (Int32)
  | 0, _, _, _ => none
  | n + 1, σ, v1, v2 =>
    if (σ 4 2) ≤ v2 then
      some ((-1))
    else
      if v1 = (-1) then
        some ((-1))
      else
        (zf_Machine_wordOf σ v2).bind fun r3 =>
        if ((zJ_ushr r3 17) &&& 1) = 0 then
          zb_Machine_aloneIn_61 (zb_Machine_aloneIn_2 N n) N σ v1 v2
        else
          (zf_Machine_howOf σ v2).bind fun r8 =>
          if ¬ r8 = 1 then
            zb_Machine_aloneIn_61 (zb_Machine_aloneIn_2 N n) N σ v1 v2
          else
            (zf_Machine_slotOf σ v2).bind fun r10 =>
            if 0 ≤ r10 ∧ r10 < 97 then
              if ¬ (σ 12 r10.toNatClampNeg) = v1 then
                zb_Machine_aloneIn_61 (zb_Machine_aloneIn_2 N n) N σ v1 v2
              else
                zb_Machine_aloneIn_62 (zb_Machine_aloneIn_2 N n) N σ v1 v2 1
            else none
/-- RX2.aloneIn [35] -/
def zf_Machine_aloneIn (N : Nat) (σ : zS) (x1 : Int32) : Option (Int32) :=
  zb_Machine_aloneIn_2 N N σ x1 0
def zb_Machine_place_30 (σ : zS) (v1 : Int32) (v2 : Int32) (v3 : Int32) (s0 : Int32) : Option (zS) :=
  if v1 < 0 then
    some (σ)
  else
    if 4 ≤ v1 then
      some (σ)
    else
      if 0 ≤ (v1 + 1) ∧ (v1 + 1) < 5 then
        if 0 ≤ (v1 + 1) ∧ (v1 + 1) < 5 then
          some ((zx_up σ 40 (v1 + 1).toNatClampNeg ((((σ 40 (v1 + 1).toNatClampNeg) &&& s0) ||| (zJ_shl v2 9)) ||| (zJ_shl v3 14))))
        else none
      else none
def zb_Machine_place_15 (σ : zS) (v1 : Int32) (v2 : Int32) (v3 : Int32) (s0 : Int32) : Option (zS) :=
  if s0 = 0 then
    zb_Machine_place_30 σ v1 v2 v3 131583
  else
    zb_Machine_place_30 σ v1 v2 v3 511
def zb_Machine_place_10 (σ : zS) (v1 : Int32) (v2 : Int32) (v3 : Int32) : Option (zS) :=
  zb_Machine_place_15 σ v1 v2 v3 1
/-- RX2.place [35] -/
def zf_Machine_place (σ : zS) (x1 : Int32) (x2 : Int32) (x3 : Int32) : Option (zS) :=
  if x3 = 4 then
    zb_Machine_place_10 σ x1 x2 x3
  else
    if ¬ x3 = 5 then
      zb_Machine_place_15 σ x1 x2 x3 0
    else
      zb_Machine_place_10 σ x1 x2 x3
def zb_Machine_goTo_49 (σ : zS) (s0 : Int32) (s1 : Int32) (s2 : Int32) : Option (zS) :=
  (zf_Machine_place σ s2 s1 s0).bind fun r4 =>
  some (r4)
def zb_Machine_goTo_40 (σ : zS) (v3 : Int32) (s0 : Int32) (s1 : Int32) : Option (zS) :=
  if v3 = 0 then
    zb_Machine_goTo_49 σ 1 s0 s1
  else
    zb_Machine_goTo_49 σ 4 s0 s1
def zb_Machine_goTo_21 (σ : zS) (v1 : Int32) (v2 : Int32) (s0 : Int32) : Option (zS) :=
  if s0 = 0 then
    zb_Machine_goTo_40 σ s0 v2 v1
  else
    (zf_Program_lengthOf σ v1).bind fun r5 =>
    zb_Machine_goTo_40 σ s0 r5 v1
def zb_Machine_goTo_16 (σ : zS) (v1 : Int32) (v2 : Int32) : Option (zS) :=
  zb_Machine_goTo_21 σ v1 v2 1
/-- RX2.goTo [35] -/
def zf_Machine_goTo (σ : zS) (x1 : Int32) (x2 : Int32) : Option (zS) :=
  if x2 < 0 then
    zb_Machine_goTo_16 σ x1 x2
  else
    (zf_Program_lengthOf σ x1).bind fun r6 =>
    if x2 < r6 then
      zb_Machine_goTo_21 σ x1 x2 0
    else
      zb_Machine_goTo_16 σ x1 x2
/-- RX2.stepOf [35] -/
def zf_Machine_stepOf (σ : zS) (x1 : Int32) : Option (Int32) :=
  (zf_Machine_wordOf σ x1).bind fun r1 =>
  some (((zJ_ushr r1 9) &&& 31))
/-- RX2.localOf [35] -/
def zf_Machine_localOf (σ : zS) (x1 : Int32) (x2 : Int32) : Option (Int32) :=
  if x1 < 0 then
    some (0)
  else
    if 4 ≤ x1 then
      some (0)
    else
      if 0 ≤ (x1 + 1) ∧ (x1 + 1) < 5 then
        some (((zJ_ushr (σ 39 (x1 + 1).toNatClampNeg) (3 * x2)) &&& 7))
      else none
/-- RX2.valueOf [35] -/
def zf_Machine_valueOf (σ : zS) (x1 : Int32) (x2 : Int32) : Option (Int32) :=
  if 8 ≤ x2 then
    (zf_Machine_localOf σ x1 (x2 - 8)).bind fun r2 =>
    some (r2)
  else
    some (x2)
/-- RX2.holds [35] -/
def zf_Machine_holds (σ : zS) (x1 : Int32) (x2 : Int32) : Option (Int32) :=
  if 0 ≤ x2 ∧ x2 < 97 then
    (zf_Machine_valueOf σ x1 (σ 14 x2.toNatClampNeg)).bind fun r2 =>
    if 0 ≤ x2 ∧ x2 < 97 then
      (zf_Machine_valueOf σ x1 (σ 16 x2.toNatClampNeg)).bind fun r4 =>
      if 0 ≤ x2 ∧ x2 < 97 then
        if (σ 15 x2.toNatClampNeg) = 60 then
          if r4 ≤ r2 then
            some (0)
          else
            some (1)
        else
          if (σ 15 x2.toNatClampNeg) = 256 then
            if ¬ r2 = r4 then
              some (0)
            else
              some (1)
          else
            if (σ 15 x2.toNatClampNeg) = 257 then
              if r2 = r4 then
                some (0)
              else
                some (1)
            else
              if r2 ≤ r4 then
                some (0)
              else
                some (1)
      else none
    else none
  else none
/-- RX2.startThread [35] -/
def zf_Machine_startThread (σ : zS) (x1 : Int32) : Option (Int32 × zS) :=
  (zf_Machine_howOf σ x1).bind fun r1 =>
  if r1 = 0 then
    (zf_Machine_goTo σ x1 0).bind fun r3 =>
    some (1, r3)
  else
    some (0, σ)
def zb_Machine_signal_121 (k49 : zS → Int32 → Int32 → Int32 → Int32 → Option (Int32 × zS)) (N : Nat) (σ : zS) (v3 : Int32) (v4 : Int32) (v5 : Int32) (v6 : Int32) : Option (Int32 × zS) :=
  k49 σ v3 v4 v5 (v6 + 1)
def zb_Machine_signal_119 (k49 : zS → Int32 → Int32 → Int32 → Int32 → Option (Int32 × zS)) (N : Nat) (σ : zS) (v3 : Int32) (v4 : Int32) (v6 : Int32) (s0 : Int32) : Option (Int32 × zS) :=
  zb_Machine_signal_121 k49 N σ v3 v4 s0 v6
def zb_Machine_signal_49 (N : Nat) : Nat → zS → Int32 → Int32 → Int32 → Int32 → Option (Int32 × zS)
  | 0, _, _, _, _, _ => none
  | n + 1, σ, v3, v4, v5, v6 =>
    if (σ 4 2) ≤ v6 then
      some (1, σ)
    else
      if v5 = 0 then
        some (1, σ)
      else
        (zf_Machine_howOf σ v6).bind fun r8 =>
        if ¬ r8 = 2 then
          zb_Machine_signal_121 (zb_Machine_signal_49 N n) N σ v3 v4 v5 v6
        else
          (zf_Machine_slotOf σ v6).bind fun r10 =>
          if 0 ≤ r10 ∧ r10 < 97 then
            if ¬ (σ 8 r10.toNatClampNeg) = v3 then
              zb_Machine_signal_121 (zb_Machine_signal_49 N n) N σ v3 v4 v5 v6
            else
              (zf_Machine_stepOf σ v6).bind fun r13 =>
              (zf_Machine_place σ v6 r13 3).bind fun r14 =>
              if ¬ v4 = 9 then
                zb_Machine_signal_119 (zb_Machine_signal_49 N n) N r14 v3 v4 v6 0
              else
                zb_Machine_signal_119 (zb_Machine_signal_49 N n) N r14 v3 v4 v6 1
          else none
def zb_Machine_signal_44 (N : Nat) (σ : zS) (v3 : Int32) (v4 : Int32) (s0 : Int32) : Option (Int32 × zS) :=
  zb_Machine_signal_49 N N σ v3 v4 s0 0
/-- RX2.signal [35] -/
def zf_Machine_signal (N : Nat) (σ : zS) (x1 : Int32) (x2 : Int32) : Option (Int32 × zS) :=
  if 0 ≤ x2 ∧ x2 < 97 then
    if 0 ≤ x2 ∧ x2 < 97 then
      (zf_Machine_ownerOf σ (σ 8 x2.toNatClampNeg)).bind fun r3 =>
      if r3 = x1 then
        if (σ 7 x2.toNatClampNeg) = 7 then
          zb_Machine_signal_44 N σ (σ 8 x2.toNatClampNeg) (σ 7 x2.toNatClampNeg) 0
        else
          zb_Machine_signal_44 N σ (σ 8 x2.toNatClampNeg) (σ 7 x2.toNatClampNeg) 1
      else
        some (0, σ)
    else none
  else none
/-- RX2.valueOfField [35] -/
def zf_Machine_valueOfField (σ : zS) (x1 : Int32) : Option (Int32) :=
  some (((zJ_ushr (σ 39 0) (3 * x1)) &&& 7))
def zb_Machine_work_150 (σ : zS) (v4 : Int32) (v6 : Int32) (s0 : Int32) (s1 : Int32) : Option (zS) :=
  if v6 < 0 then
    some (σ)
  else
    if 5 ≤ v6 then
      some (σ)
    else
      if 0 ≤ v6 ∧ v6 < 5 then
        if 0 ≤ v6 ∧ v6 < 5 then
          some ((zx_up σ 40 v6.toNatClampNeg (((σ 40 v6.toNatClampNeg) &&& ((zJ_shl 7 (s1 * s0)) ^^^ (-1))) ||| (zJ_shl (v4 &&& 7) (s1 * s0)))))
        else none
      else none
def zb_Machine_work_121 (σ : zS) (v2 : Int32) (v3 : Int32) (v4 : Int32) (s0 : Int32) : Option (zS) :=
  if ¬ v3 = 1 then
    if 0 ≤ v2 ∧ v2 < 97 then
      zb_Machine_work_150 σ v4 s0 (σ 13 v2.toNatClampNeg) 3
    else none
  else
    if 0 ≤ v2 ∧ v2 < 97 then
      zb_Machine_work_150 σ v4 s0 (σ 8 v2.toNatClampNeg) 3
    else none
def zb_Machine_work_109 (σ : zS) (v1 : Int32) (v2 : Int32) (v3 : Int32) (v4 : Int32) : Option (zS) :=
  if ¬ v3 = 1 then
    zb_Machine_work_121 σ v2 v3 v4 (v1 + 1)
  else
    zb_Machine_work_121 σ v2 v3 v4 0
/-- RX2.work [35] -/
def zf_Machine_work (σ : zS) (x1 : Int32) (x2 : Int32) : Option (zS) :=
  if 0 ≤ x2 ∧ x2 < 97 then
    if 0 ≤ x2 ∧ x2 < 97 then
      (zf_Machine_valueOf σ x1 (σ 14 x2.toNatClampNeg)).bind fun r3 =>
      if 0 ≤ x2 ∧ x2 < 97 then
        (zf_Machine_valueOf σ x1 (σ 16 x2.toNatClampNeg)).bind fun r5 =>
        if ¬ (σ 7 x2.toNatClampNeg) = 0 then
          if 0 ≤ x2 ∧ x2 < 97 then
            if ¬ (σ 15 x2.toNatClampNeg) = 43 then
              if 0 ≤ x2 ∧ x2 < 97 then
                if ¬ (σ 15 x2.toNatClampNeg) = 45 then
                  zb_Machine_work_109 σ x1 x2 (σ 7 x2.toNatClampNeg) r3
                else
                  zb_Machine_work_109 σ x1 x2 (σ 7 x2.toNatClampNeg) (r3 - r5)
              else none
            else
              zb_Machine_work_109 σ x1 x2 (σ 7 x2.toNatClampNeg) (r3 + r5)
          else none
        else
          if 0 ≤ x2 ∧ x2 < 97 then
            (zf_Machine_valueOfField σ (σ 8 x2.toNatClampNeg)).bind fun r20 =>
            zb_Machine_work_109 σ x1 x2 (σ 7 x2.toNatClampNeg) r20
          else none
      else none
    else none
  else none
def zb_Machine_move_317 (N : Nat) (σ : zS) (v1 : Int32) (v6 : Int32) : Option (zS) :=
  (zf_Machine_goTo σ v1 v6).bind fun r28 =>
  some (r28)
def zb_Machine_move_261 (N : Nat) (σ : zS) (v1 : Int32) (v3 : Int32) (v5 : Int32) (v6 : Int32) : Option (zS) :=
  if ¬ v5 = 0 then
    (zf_Machine_howOf σ v1).bind fun r26 =>
    if ¬ r26 = 1 then
      zb_Machine_move_317 N σ v1 v6
    else
      if 0 ≤ v3 ∧ v3 < 97 then
        if ¬ (σ 7 v3.toNatClampNeg) = 7 then
          zb_Machine_move_317 N σ v1 v6
        else
          (zf_Machine_stepOf σ v1).bind fun r31 =>
          (zf_Machine_place σ v1 r31 2).bind fun r32 =>
          some (r32)
      else none
  else
    (zf_Machine_stepOf σ v1).bind fun r33 =>
    (zf_Machine_place σ v1 r33 5).bind fun r34 =>
    some (r34)
def zb_Machine_move_216 (N : Nat) (σ : zS) (v1 : Int32) (v3 : Int32) (v5 : Int32) (s0 : Int32) : Option (zS) :=
  zb_Machine_move_261 N σ v1 v3 v5 s0
def zb_Machine_move_116 (N : Nat) (σ : zS) (v1 : Int32) (v3 : Int32) (v5 : Int32) (v6 : Int32) (s0 : Int32) : Option (zS) :=
  if s0 = 0 then
    (zf_Machine_work σ v1 v3).bind fun r49 =>
    zb_Machine_move_261 N r49 v1 v3 v5 v6
  else
    if s0 = 1 then
      (zf_Machine_work σ v1 v3).bind fun r48 =>
      zb_Machine_move_261 N r48 v1 v3 v5 v6
    else
      if s0 = 2 then
        (zf_Machine_work σ v1 v3).bind fun r47 =>
        zb_Machine_move_261 N r47 v1 v3 v5 v6
      else
        if s0 = 3 then
          zb_Machine_move_261 N σ v1 v3 v5 v6
        else
          if s0 = 4 then
            zb_Machine_move_261 N σ v1 v3 v5 v6
          else
            if s0 = 5 then
              (zf_Machine_holds σ v1 v3).bind fun r44 =>
              if r44 = 0 then
                if 0 ≤ v3 ∧ v3 < 97 then
                  zb_Machine_move_216 N σ v1 v3 v5 (σ 10 v3.toNatClampNeg)
                else none
              else
                zb_Machine_move_216 N σ v1 v3 v5 v6
            else
              if s0 = 6 then
                (zf_Machine_holds σ v1 v3).bind fun r41 =>
                if r41 = 0 then
                  if 0 ≤ v3 ∧ v3 < 97 then
                    zb_Machine_move_216 N σ v1 v3 v5 (σ 10 v3.toNatClampNeg)
                  else none
                else
                  zb_Machine_move_216 N σ v1 v3 v5 v6
              else
                if s0 = 7 then
                  (zf_Machine_signal N σ v1 v3).bind fun r40 =>
                  zb_Machine_move_261 N r40.2 v1 v3 r40.1 v6
                else
                  if s0 = 8 then
                    (zf_Machine_signal N σ v1 v3).bind fun r39 =>
                    zb_Machine_move_261 N r39.2 v1 v3 r39.1 v6
                  else
                    if s0 = 9 then
                      (zf_Machine_signal N σ v1 v3).bind fun r38 =>
                      zb_Machine_move_261 N r38.2 v1 v3 r38.1 v6
                    else
                      if s0 = 10 then
                        if 0 ≤ v3 ∧ v3 < 97 then
                          (zf_Machine_startThread σ (σ 8 v3.toNatClampNeg)).bind fun r37 =>
                          zb_Machine_move_261 N r37.2 v1 v3 r37.1 v6
                        else none
                      else
                        if s0 = 11 then
                          zb_Machine_move_261 N σ v1 v3 v5 v6
                        else
                          if s0 = 12 then
                            (zf_Machine_holds σ v1 v3).bind fun r35 =>
                            zb_Machine_move_261 N σ v1 v3 r35 v6
                          else
                            zb_Machine_move_261 N σ v1 v3 v5 v6
def zb_Machine_move_39 (N : Nat) (σ : zS) (v1 : Int32) (v3 : Int32) (s0 : Int32) : Option (zS) :=
  if 0 ≤ (v1 + 1) ∧ (v1 + 1) < 5 then
    if 0 ≤ (v1 + 1) ∧ (v1 + 1) < 5 then
      if 0 ≤ v3 ∧ v3 < 97 then
        (zf_Machine_howOf (zx_up (zJ_copy σ 39 40 0 0 5) 40 (v1 + 1).toNatClampNeg ((((zJ_copy σ 39 40 0 0 5) 39 (v1 + 1).toNatClampNeg) &&& (-131073)) ||| (zJ_shl s0 17))) v1).bind fun r9 =>
        if ¬ r9 = 3 then
          if 0 ≤ v3 ∧ v3 < 97 then
            zb_Machine_move_116 N (zx_up (zJ_copy σ 39 40 0 0 5) 40 (v1 + 1).toNatClampNeg ((((zJ_copy σ 39 40 0 0 5) 39 (v1 + 1).toNatClampNeg) &&& (-131073)) ||| (zJ_shl s0 17))) v1 v3 1 ((zJ_copy σ 39 40 0 0 5) 9 v3.toNatClampNeg) ((zJ_copy σ 39 40 0 0 5) 7 v3.toNatClampNeg)
          else none
        else
          zb_Machine_move_116 N (zx_up (zJ_copy σ 39 40 0 0 5) 40 (v1 + 1).toNatClampNeg ((((zJ_copy σ 39 40 0 0 5) 39 (v1 + 1).toNatClampNeg) &&& (-131073)) ||| (zJ_shl s0 17))) v1 v3 1 ((zJ_copy σ 39 40 0 0 5) 9 v3.toNatClampNeg) (-1)
      else none
    else none
  else none
def zb_Machine_move_38 (N : Nat) (σ : zS) (v1 : Int32) (v3 : Int32) : Option (zS) :=
  zb_Machine_move_39 N σ v1 v3 0
/-- RX2.move [35] -/
def zf_Machine_move (N : Nat) (σ : zS) (x1 : Int32) (x2 : Int32) : Option (zS) :=
  if x1 < 0 then
    some (σ)
  else
    if x1 < 4 then
      (zf_Machine_slotOf σ x1).bind fun r3 =>
      if x2 = (-1) then
        zb_Machine_move_38 N σ x1 r3
      else
        if 0 ≤ r3 ∧ r3 < 97 then
          if ¬ (σ 12 r3.toNatClampNeg) = x2 then
            zb_Machine_move_38 N σ x1 r3
          else
            zb_Machine_move_39 N σ x1 r3 1
        else none
    else
      some (σ)
def zb_Space_exploreFrom_95 (k20 : zS → Int32 → Int32 → Int32 → Int32 → Int32 → Option (Int32 × zS)) (N : Nat) (σ : zS) (v1 : Int32) (v2 : Int32) (v3 : Int32) (v4 : Int32) (v5 : Int32) : Option (Int32 × zS) :=
  k20 σ v1 v2 v3 v4 (v5 + 1)
def zb_Space_exploreFrom_48 (k20 : zS → Int32 → Int32 → Int32 → Int32 → Int32 → Option (Int32 × zS)) (N : Nat) (σ : zS) (v1 : Int32) (v2 : Int32) (v3 : Int32) (v4 : Int32) (v5 : Int32) (s0 : Int32) : Option (Int32 × zS) :=
  if s0 = 0 then
    zb_Space_exploreFrom_95 k20 N σ v1 v2 v3 v4 v5
  else
    (zf_Machine_canMove σ v5).bind fun r9 =>
    if r9 = 0 then
      zb_Space_exploreFrom_95 k20 N σ v1 v2 v3 v4 v5
    else
      (zf_Machine_move N σ v5 v2).bind fun r11 =>
      (zf_Space_note N r11 ((v1 * 4) + v5)).bind fun r12 =>
      if ¬ r12.1 = 0 then
        zb_Space_exploreFrom_95 k20 N r12.2 v1 v2 v3 0 v5
      else
        some (0, r12.2)
def zb_Space_exploreFrom_43 (k20 : zS → Int32 → Int32 → Int32 → Int32 → Int32 → Option (Int32 × zS)) (N : Nat) (σ : zS) (v1 : Int32) (v2 : Int32) (v3 : Int32) (v4 : Int32) (v5 : Int32) : Option (Int32 × zS) :=
  zb_Space_exploreFrom_48 k20 N σ v1 v2 v3 v4 v5 1
def zb_Space_exploreFrom_20 (N : Nat) : Nat → zS → Int32 → Int32 → Int32 → Int32 → Int32 → Option (Int32 × zS)
  | 0, _, _, _, _, _, _ => none
  | n + 1, σ, v1, v2, v3, v4, v5 =>
    if (σ 4 2) ≤ v5 then
      (zf_Space_has σ v1).bind fun r4 =>
      if r4 = 0 then
        some (1, σ)
      else
        if 0 ≤ v1 ∧ v1 < 4000 then
          some (1, (zx_up σ 44 v1.toNatClampNeg (v4 &&& 1)))
        else none
    else
      if v3 = (-1) then
        zb_Space_exploreFrom_43 (zb_Space_exploreFrom_20 N n) N σ v1 v2 v3 v4 v5
      else
        if ¬ v3 = v5 then
          zb_Space_exploreFrom_48 (zb_Space_exploreFrom_20 N n) N σ v1 v2 v3 v4 v5 0
        else
          zb_Space_exploreFrom_43 (zb_Space_exploreFrom_20 N n) N σ v1 v2 v3 v4 v5
/-- RX8.exploreFrom [41] -/
def zf_Space_exploreFrom (N : Nat) (σ : zS) (x1 : Int32) (x2 : Int32) : Option (Int32 × zS) :=
  (zf_Space_load N σ x1).bind fun r1 =>
  (zf_Machine_aloneIn N r1 x2).bind fun r2 =>
  zb_Space_exploreFrom_20 N N r1 x1 x2 r2 1 0
def zb_Space_explore_28 (N : Nat) : Nat → zS → Int32 → Int32 → Int32 → Option (Int32 × zS)
  | 0, _, _, _, _ => none
  | n + 1, σ, v1, v2, v3 =>
    if (σ 41 6) ≤ v3 then
      if v2 = 0 ∨ v2 = 1 then
        some (v2, σ)
      else none
    else
      if 4000 ≤ v3 then
        if v2 = 0 ∨ v2 = 1 then
          some (v2, σ)
        else none
      else
        if v2 = 0 then
          if v2 = 0 ∨ v2 = 1 then
            some (v2, σ)
          else none
        else
          (zf_Space_exploreFrom N σ v3 v1).bind fun r10 =>
          zb_Space_explore_28 N n r10.2 v1 r10.1 (v3 + 1)
/-- RX8.explore [41] -/
def zf_Space_explore (N : Nat) (σ : zS) (x1 : Int32) : Option (Int32 × zS) :=
  (zf_Arrays_fill_c3 N (zx_up σ 41 6 0) 0).bind fun r1 =>
  (zf_Machine_setFirst N r1).bind fun r2 =>
  (zf_Space_note N r2 0).bind fun r3 =>
  zb_Space_explore_28 N N r3.2 x1 r3.1 0
/-- RX4.clear [47] -/
def zf_Numbers_clear (σ : zS) : Option (zS) :=
  some ((zx_up σ 47 1 0))
/-- RX4.clear [49] -/
def zf_Numbers_clear_c1 (σ : zS) : Option (zS) :=
  some ((zx_up σ 49 1 0))
/-- RX4.clear [51] -/
def zf_Numbers_clear_c2 (σ : zS) : Option (zS) :=
  some ((zx_up σ 51 1 0))
def zb_Arrays_fill_c5_5 (N : Nat) : Nat → zS → Int32 → Int32 → Int32 → Option (zS)
  | 0, _, _, _, _ => none
  | n + 1, σ, v1, v2, v3 =>
    if v3 ≤ v2 then
      some (σ)
    else
      if 0 ≤ v2 ∧ v2 < 9216 then
        zb_Arrays_fill_c5_5 N n (zx_up σ 57 v2.toNatClampNeg v1) v1 (v2 + 1) v3
      else none
/-- RJ7.fill [57] -/
def zf_Arrays_fill_c5 (N : Nat) (σ : zS) (x2 : Int32) : Option (zS) :=
  zb_Arrays_fill_c5_5 N N σ x2 0 9216
/-- RX4.clear [53] -/
def zf_Numbers_clear_c3 (σ : zS) : Option (zS) :=
  some ((zx_up σ 53 1 0))
/-- RX4.clear [55] -/
def zf_Numbers_clear_c4 (σ : zS) : Option (zS) :=
  some ((zx_up σ 55 1 0))
/-- RX4.add [53] -/
def zf_Numbers_add (σ : zS) (x1 : Int32) : Option (zS) :=
  if (σ 53 1) < 0 then
    some (σ)
  else
    if 3456 ≤ (σ 53 1) then
      some (σ)
    else
      if 0 ≤ (σ 53 1) ∧ (σ 53 1) < 3456 then
        some ((zx_up (zx_up σ 54 (σ 53 1).toNatClampNeg x1) 53 1 ((σ 53 1) + 1)))
      else none
/-- RX4.add [55] -/
def zf_Numbers_add_c1 (σ : zS) (x1 : Int32) : Option (zS) :=
  if (σ 55 1) < 0 then
    some (σ)
  else
    if 3456 ≤ (σ 55 1) then
      some (σ)
    else
      if 0 ≤ (σ 55 1) ∧ (σ 55 1) < 3456 then
        some ((zx_up (zx_up σ 56 (σ 55 1).toNatClampNeg x1) 55 1 ((σ 55 1) + 1)))
      else none
def zb_Findings_listRaces_56 (k16 : zS → Int32 → Option (zS)) (N : Nat) (σ : zS) (v1 : Int32) : Option (zS) :=
  k16 σ (v1 + 1)
def zb_Findings_listRaces_16 (N : Nat) : Nat → zS → Int32 → Option (zS)
  | 0, _, _ => none
  | n + 1, σ, v1 =>
    if 9216 ≤ v1 then
      some (σ)
    else
      if 0 ≤ v1 ∧ v1 < 9216 then
        if (σ 57 v1.toNatClampNeg) = (-1) then
          zb_Findings_listRaces_56 (zb_Findings_listRaces_16 N n) N σ v1
        else
          (zf_Numbers_add σ v1).bind fun r6 =>
          if 0 ≤ v1 ∧ v1 < 9216 then
            (zf_Numbers_add_c1 r6 (r6 57 v1.toNatClampNeg)).bind fun r8 =>
            zb_Findings_listRaces_56 (zb_Findings_listRaces_16 N n) N r8 v1
          else none
      else none
/-- RX0.listRaces [46] -/
def zf_Findings_listRaces (N : Nat) (σ : zS) : Option (zS) :=
  (zf_Numbers_clear_c3 σ).bind fun r1 =>
  (zf_Numbers_clear_c4 r1).bind fun r2 =>
  zb_Findings_listRaces_16 N N r2 0
/-- RX4.clear [59] -/
def zf_Numbers_clear_c5 (σ : zS) : Option (zS) :=
  some ((zx_up σ 59 1 0))
/-- RX4.clear [61] -/
def zf_Numbers_clear_c6 (σ : zS) : Option (zS) :=
  some ((zx_up σ 61 1 0))
def zb_Arrays_fill_c6_5 (N : Nat) : Nat → zS → Int32 → Int32 → Int32 → Option (zS)
  | 0, _, _, _, _ => none
  | n + 1, σ, v1, v2, v3 =>
    if v3 ≤ v2 then
      some (σ)
    else
      if 0 ≤ v2 ∧ v2 < 8192 then
        zb_Arrays_fill_c6_5 N n (zx_up σ 63 v2.toNatClampNeg v1) v1 (v2 + 1) v3
      else none
/-- RJ7.fill [63] -/
def zf_Arrays_fill_c6 (N : Nat) (σ : zS) (x2 : Int32) : Option (zS) :=
  zb_Arrays_fill_c6_5 N N σ x2 0 8192
/-- RX8.isLast [41] -/
def zf_Space_isLast (σ : zS) (x1 : Int32) : Option (Int32) :=
  (zf_Space_has σ x1).bind fun r1 =>
  if r1 = 0 then
    some (0)
  else
    if 0 ≤ x1 ∧ x1 < 4000 then
      if (σ 44 x1.toNatClampNeg) = 0 then
        some (0)
      else
        some (1)
    else none
def zb_Machine_isGone_20 (σ : zS) : Option (Int32) :=
  some (1)
/-- RX2.isGone [35] -/
def zf_Machine_isGone (σ : zS) (x1 : Int32) : Option (Int32) :=
  (zf_Machine_howOf σ x1).bind fun r1 =>
  if r1 = 4 then
    zb_Machine_isGone_20 σ
  else
    if r1 = 5 then
      zb_Machine_isGone_20 σ
    else
      if ¬ r1 = 0 then
        some (0)
      else
        zb_Machine_isGone_20 σ
def zb_Machine_isOver_2 (N : Nat) : Nat → zS → Int32 → Option (Int32)
  | 0, _, _ => none
  | n + 1, σ, v1 =>
    if (σ 4 2) ≤ v1 then
      some (1)
    else
      (zf_Machine_isGone σ v1).bind fun r2 =>
      if ¬ r2 = 0 then
        zb_Machine_isOver_2 N n σ (v1 + 1)
      else
        some (0)
/-- RX2.isOver [35] -/
def zf_Machine_isOver (N : Nat) (σ : zS) : Option (Int32) :=
  zb_Machine_isOver_2 N N σ 0
def zb_Machine_failed_30 (k4 : zS → Int32 → Int32 → Option (Int32)) (N : Nat) (σ : zS) (v1 : Int32) (v2 : Int32) : Option (Int32) :=
  k4 σ v1 (v2 + 1)
def zb_Machine_failed_4 (N : Nat) : Nat → zS → Int32 → Int32 → Option (Int32)
  | 0, _, _, _ => none
  | n + 1, σ, v1, v2 =>
    if (σ 4 2) ≤ v2 then
      some (v1)
    else
      (zf_Machine_howOf σ v2).bind fun r2 =>
      if ¬ r2 = 5 then
        zb_Machine_failed_30 (zb_Machine_failed_4 N n) N σ v1 v2
      else
        zb_Machine_failed_30 (zb_Machine_failed_4 N n) N σ (v1 ||| (zJ_shl 1 v2)) v2
/-- RX2.failed [35] -/
def zf_Machine_failed (N : Nat) (σ : zS) : Option (Int32) :=
  zb_Machine_failed_4 N N σ 0 0
def zb_Machine_outcome_12 (N : Nat) (σ : zS) (s0 : Int32) : Option (Int32) :=
  (zf_Machine_failed N σ).bind fun r3 =>
  some ((((σ 39 0) ||| (zJ_shl r3 18)) ||| (zJ_shl s0 22)))
/-- RX2.outcome [35] -/
def zf_Machine_outcome (N : Nat) (σ : zS) : Option (Int32) :=
  (zf_Machine_isOver N σ).bind fun r1 =>
  if r1 = 0 then
    zb_Machine_outcome_12 N σ 1
  else
    zb_Machine_outcome_12 N σ 0
def zb_Numbers_get_21 (σ : zS) : Option (Int32) :=
  some ((-1))
/-- RX4.get [59] -/
def zf_Numbers_get (σ : zS) (x1 : Int32) : Option (Int32) :=
  if x1 < 0 then
    zb_Numbers_get_21 σ
  else
    if (σ 59 1) ≤ x1 then
      zb_Numbers_get_21 σ
    else
      if x1 < 4000 then
        if 0 ≤ x1 ∧ x1 < 4000 then
          some ((σ 60 x1.toNatClampNeg))
        else none
      else
        zb_Numbers_get_21 σ
def zb_Outcomes_slotOf_19 (N : Nat) : Nat → zS → Int32 → Int32 → Int32 → Option (Int32)
  | 0, _, _, _, _ => none
  | n + 1, σ, v1, v3, v4 =>
    if 8192 ≤ v4 then
      some (v3)
    else
      if 0 ≤ v3 ∧ v3 < 8192 then
        if (σ 63 v3.toNatClampNeg) = 0 then
          some (v3)
        else
          if 0 ≤ v3 ∧ v3 < 8192 then
            (zf_Numbers_get σ ((σ 63 v3.toNatClampNeg) - 1)).bind fun r5 =>
            if ¬ r5 = v1 then
              zb_Outcomes_slotOf_19 N n σ v1 ((v3 + 1) &&& 8191) (v4 + 1)
            else
              some (v3)
          else none
      else none
/-- RX5.slotOf [58] -/
def zf_Outcomes_slotOf (N : Nat) (σ : zS) (x1 : Int32) : Option (Int32) :=
  zb_Outcomes_slotOf_19 N N σ x1 (((x1 * (-1640531535)) ^^^ (zJ_ushr (x1 * (-1640531535)) 15)) &&& 8191) 0
/-- RX4.add [59] -/
def zf_Numbers_add_c2 (σ : zS) (x1 : Int32) : Option (zS) :=
  if (σ 59 1) < 0 then
    some (σ)
  else
    if 4000 ≤ (σ 59 1) then
      some (σ)
    else
      if 0 ≤ (σ 59 1) ∧ (σ 59 1) < 4000 then
        some ((zx_up (zx_up σ 60 (σ 59 1).toNatClampNeg x1) 59 1 ((σ 59 1) + 1)))
      else none
/-- RX4.add [61] -/
def zf_Numbers_add_c3 (σ : zS) (x1 : Int32) : Option (zS) :=
  if (σ 61 1) < 0 then
    some (σ)
  else
    if 4000 ≤ (σ 61 1) then
      some (σ)
    else
      if 0 ≤ (σ 61 1) ∧ (σ 61 1) < 4000 then
        some ((zx_up (zx_up σ 62 (σ 61 1).toNatClampNeg x1) 61 1 ((σ 61 1) + 1)))
      else none
/-- RX5.note [58] -/
def zf_Outcomes_note (N : Nat) (σ : zS) (x1 : Int32) (x2 : Int32) : Option (zS) :=
  (zf_Outcomes_slotOf N σ x1).bind fun r1 =>
  if 0 ≤ r1 ∧ r1 < 8192 then
    if ¬ (σ 63 r1.toNatClampNeg) = 0 then
      some (σ)
    else
      (zf_Numbers_add_c2 σ x1).bind fun r4 =>
      (zf_Numbers_add_c3 r4 x2).bind fun r5 =>
      if 0 ≤ r1 ∧ r1 < 8192 then
        some ((zx_up r5 63 r1.toNatClampNeg (r5 59 1)))
      else none
  else none
def zb_Outcomes_gather_57 (k24 : zS → Int32 → Option (zS)) (N : Nat) (σ : zS) (v2 : Int32) : Option (zS) :=
  k24 σ (v2 + 1)
def zb_Outcomes_gather_24 (N : Nat) : Nat → zS → Int32 → Option (zS)
  | 0, _, _ => none
  | n + 1, σ, v2 =>
    if (σ 41 6) ≤ v2 then
      some (σ)
    else
      (zf_Space_isLast σ v2).bind fun r5 =>
      if r5 = 0 then
        zb_Outcomes_gather_57 (zb_Outcomes_gather_24 N n) N σ v2
      else
        (zf_Space_load N σ v2).bind fun r7 =>
        (zf_Machine_outcome N r7).bind fun r8 =>
        (zf_Outcomes_note N r7 r8 v2).bind fun r9 =>
        zb_Outcomes_gather_57 (zb_Outcomes_gather_24 N n) N r9 v2
/-- RX5.gather [58, 41] -/
def zf_Outcomes_gather (N : Nat) (σ : zS) : Option (zS) :=
  (zf_Numbers_clear_c5 σ).bind fun r1 =>
  (zf_Numbers_clear_c6 r1).bind fun r2 =>
  (zf_Arrays_fill_c6 N r2 0).bind fun r3 =>
  zb_Outcomes_gather_24 N N r3 0
def zb_Program_clash_81 (σ : zS) (v2 : Int32) (v3 : Int32) (v4 : Int32) (s0 : Int32) : Option (Int32) :=
  if v4 = 0 then
    some (0)
  else
    if s0 = 0 then
      some (0)
    else
      if 0 ≤ v2 ∧ v2 < 97 then
        if ¬ v3 = (σ 8 v2.toNatClampNeg) then
          some (0)
        else
          if ¬ ((zJ_ushr (σ 4 6) v3) &&& 1) = 0 then
            some (0)
          else
            some (1)
      else none
def zb_Program_clash_76 (σ : zS) (v2 : Int32) (v3 : Int32) (v4 : Int32) : Option (Int32) :=
  zb_Program_clash_81 σ v2 v3 v4 1
def zb_Program_clash_54 (σ : zS) (v1 : Int32) (v2 : Int32) (v3 : Int32) (s0 : Int32) : Option (Int32) :=
  if 0 ≤ v1 ∧ v1 < 97 then
    if (σ 7 v1.toNatClampNeg) = 1 then
      zb_Program_clash_76 σ v2 v3 s0
    else
      if 0 ≤ v2 ∧ v2 < 97 then
        if ¬ (σ 7 v2.toNatClampNeg) = 1 then
          zb_Program_clash_81 σ v2 v3 s0 0
        else
          zb_Program_clash_76 σ v2 v3 s0
      else none
  else none
def zb_Program_clash_53 (σ : zS) (v1 : Int32) (v2 : Int32) (v3 : Int32) : Option (Int32) :=
  zb_Program_clash_54 σ v1 v2 v3 0
/-- RX6.clash [4] -/
def zf_Program_clash (σ : zS) (x1 : Int32) (x2 : Int32) : Option (Int32) :=
  if x1 < 0 then
    some (0)
  else
    if 96 ≤ x1 then
      some (0)
    else
      if x2 < 0 then
        some (0)
      else
        if x2 < 96 then
          if 0 ≤ x1 ∧ x1 < 97 then
            if 0 ≤ x1 ∧ x1 < 97 then
              if 1 < (σ 7 x1.toNatClampNeg) then
                zb_Program_clash_53 σ x1 x2 (σ 8 x1.toNatClampNeg)
              else
                if 0 ≤ x2 ∧ x2 < 97 then
                  if 1 < (σ 7 x2.toNatClampNeg) then
                    zb_Program_clash_53 σ x1 x2 (σ 8 x1.toNatClampNeg)
                  else
                    zb_Program_clash_54 σ x1 x2 (σ 8 x1.toNatClampNeg) 1
                else none
            else none
          else none
        else
          some (0)
/-- RX0.noteRace [46] -/
def zf_Findings_noteRace (σ : zS) (x1 : Int32) (x2 : Int32) (x3 : Int32) : Option (zS) :=
  (zf_Program_clash σ x1 x2).bind fun r1 =>
  if r1 = 0 then
    some (σ)
  else
    if ((x1 * 96) + x2) < 0 then
      some (σ)
    else
      if 9216 ≤ ((x1 * 96) + x2) then
        some (σ)
      else
        if 0 ≤ ((x1 * 96) + x2) ∧ ((x1 * 96) + x2) < 9216 then
          if ¬ (σ 57 ((x1 * 96) + x2).toNatClampNeg) = (-1) then
            some (σ)
          else
            if 0 ≤ ((x1 * 96) + x2) ∧ ((x1 * 96) + x2) < 9216 then
              some ((zx_up σ 57 ((x1 * 96) + x2).toNatClampNeg x3))
            else none
        else none
def zb_Findings_noteRaces_83 (k17 : zS → Int32 → Int32 → Int32 → Option (zS)) (N : Nat) (σ : zS) (v1 : Int32) (v2 : Int32) (v3 : Int32) : Option (zS) :=
  k17 σ v1 v2 (v3 + 1)
def zb_Findings_noteRaces_17 (k2 : zS → Int32 → Int32 → Option (zS)) (N : Nat) : Nat → zS → Int32 → Int32 → Int32 → Option (zS)
  | 0, _, _, _, _ => none
  | n + 1, σ, v1, v2, v3 =>
    if (σ 4 2) ≤ v3 then
      k2 σ v1 (v2 + 1)
    else
      (zf_Machine_howOf σ v2).bind fun r3 =>
      if ¬ r3 = 1 then
        zb_Findings_noteRaces_83 (zb_Findings_noteRaces_17 k2 N n) N σ v1 v2 v3
      else
        (zf_Machine_howOf σ v3).bind fun r5 =>
        if ¬ r5 = 1 then
          zb_Findings_noteRaces_83 (zb_Findings_noteRaces_17 k2 N n) N σ v1 v2 v3
        else
          (zf_Machine_stepOf σ v2).bind fun r7 =>
          (zf_Machine_stepOf σ v3).bind fun r8 =>
          (zf_Findings_noteRace σ ((v2 * 24) + r7) ((v3 * 24) + r8) v1).bind fun r9 =>
          zb_Findings_noteRaces_83 (zb_Findings_noteRaces_17 k2 N n) N r9 v1 v2 v3
def zb_Findings_noteRaces_2 (N : Nat) : Nat → zS → Int32 → Int32 → Option (zS)
  | 0, _, _, _ => none
  | n + 1, σ, v1, v2 =>
    if (σ 4 2) ≤ v2 then
      some (σ)
    else
      zb_Findings_noteRaces_17 (zb_Findings_noteRaces_2 N n) N N σ v1 v2 (v2 + 1)
/-- RX0.noteRaces [46] -/
def zf_Findings_noteRaces (N : Nat) (σ : zS) (x1 : Int32) : Option (zS) :=
  zb_Findings_noteRaces_2 N N σ x1 0
/-- RX4.add [49] -/
def zf_Numbers_add_c4 (σ : zS) (x1 : Int32) : Option (zS) :=
  if (σ 49 1) < 0 then
    some (σ)
  else
    if 4000 ≤ (σ 49 1) then
      some (σ)
    else
      if 0 ≤ (σ 49 1) ∧ (σ 49 1) < 4000 then
        some ((zx_up (zx_up σ 50 (σ 49 1).toNatClampNeg x1) 49 1 ((σ 49 1) + 1)))
      else none
/-- RX4.add [47] -/
def zf_Numbers_add_c5 (σ : zS) (x1 : Int32) : Option (zS) :=
  if (σ 47 1) < 0 then
    some (σ)
  else
    if 4000 ≤ (σ 47 1) then
      some (σ)
    else
      if 0 ≤ (σ 47 1) ∧ (σ 47 1) < 4000 then
        some ((zx_up (zx_up σ 48 (σ 47 1).toNatClampNeg x1) 47 1 ((σ 47 1) + 1)))
      else none
/-- RX4.add [51] -/
def zf_Numbers_add_c6 (σ : zS) (x1 : Int32) : Option (zS) :=
  if (σ 51 1) < 0 then
    some (σ)
  else
    if 4000 ≤ (σ 51 1) then
      some (σ)
    else
      if 0 ≤ (σ 51 1) ∧ (σ 51 1) < 4000 then
        some ((zx_up (zx_up σ 52 (σ 51 1).toNatClampNeg x1) 51 1 ((σ 51 1) + 1)))
      else none
def zb_Findings_gather_97 (k31 : zS → Int32 → Option (zS)) (N : Nat) (σ : zS) (v2 : Int32) : Option (zS) :=
  (zf_Findings_noteRaces N σ v2).bind fun r13 =>
  k31 r13 (v2 + 1)
def zb_Findings_gather_91_1 (k31 : zS → Int32 → Option (zS)) (N : Nat) (σ : zS) (v2 : Int32) : Option (zS) :=
  (zf_Numbers_add_c5 σ v2).bind fun r17 =>
  zb_Findings_gather_97 k31 N r17 v2
def zb_Findings_gather_91 (k31 : zS → Int32 → Option (zS)) (N : Nat) (σ : zS) (v2 : Int32) : Option (zS) :=
  (zf_Numbers_add_c4 σ v2).bind fun r16 =>
  zb_Findings_gather_97 k31 N r16 v2
def zb_Findings_gather_62 (k31 : zS → Int32 → Option (zS)) (N : Nat) (σ : zS) (v2 : Int32) : Option (zS) :=
  (zf_Space_isLast σ v2).bind fun r11 =>
  if r11 = 0 then
    zb_Findings_gather_97 k31 N σ v2
  else
    (zf_Machine_isOver N σ).bind fun r14 =>
    if r14 = 0 then
      zb_Findings_gather_91 k31 N σ v2
    else
      zb_Findings_gather_91_1 k31 N σ v2
def zb_Findings_gather_31 (N : Nat) : Nat → zS → Int32 → Option (zS)
  | 0, _, _ => none
  | n + 1, σ, v2 =>
    if (σ 41 6) ≤ v2 then
      (zf_Findings_listRaces N σ).bind fun r6 =>
      (zf_Outcomes_gather N r6).bind fun r7 =>
      some (r7)
    else
      (zf_Space_load N σ v2).bind fun r8 =>
      (zf_Machine_failed N r8).bind fun r9 =>
      if r9 = 0 then
        zb_Findings_gather_62 (zb_Findings_gather_31 N n) N r8 v2
      else
        (zf_Numbers_add_c6 r8 v2).bind fun r18 =>
        zb_Findings_gather_62 (zb_Findings_gather_31 N n) N r18 v2
/-- RX0.gather [46, 41] -/
def zf_Findings_gather (N : Nat) (σ : zS) : Option (zS) :=
  (zf_Numbers_clear σ).bind fun r1 =>
  (zf_Numbers_clear_c1 r1).bind fun r2 =>
  (zf_Numbers_clear_c2 r2).bind fun r3 =>
  (zf_Arrays_fill_c5 N r3 (-1)).bind fun r4 =>
  zb_Findings_gather_31 N N r4 0
def zb_X_run_57 (N : Nat) (σ : zS) : Option (Int32 × zS) :=
  if (σ 2 15) = 0 then
    some ((-103), σ)
  else
    some ((σ 41 6), σ)
/-- RX11.run [2] -/
def zf_X_run (N : Nat) (σ : zS) : Option (Int32 × zS) :=
  if ¬ (σ 2 13) = 0 then
    if ¬ (σ 2 14) = 0 then
      zb_X_run_57 N (zx_up σ 2 16 (-1))
    else
      (zf_Space_explore N (zx_up (zx_up σ 2 16 (-1)) 2 14 1) (-1)).bind fun r4 =>
      if r4.1 = 0 ∨ r4.1 = 1 then
        if r4.1 = 0 then
          zb_X_run_57 N (zx_up r4.2 2 15 r4.1)
        else
          (zf_Findings_gather N (zx_up r4.2 2 15 r4.1)).bind fun r7 =>
          zb_X_run_57 N r7
      else none
  else
    some ((-101), σ)
def zb_M_forget_2 (N : Nat) : Nat → zS → Int32 → Int32 → Option (zS)
  | 0, _, _, _ => none
  | n + 1, σ, v1, v2 =>
    if 8192 ≤ v2 then
      some ((zx_up (zx_up σ 82 51 v1) 82 52 0))
    else
      if 0 ≤ v2 ∧ v2 < 8192 then
        zb_M_forget_2 N n (zx_up σ 109 v2.toNatClampNeg (-1)) v1 (v2 + 1)
      else none
/-- RX12.forget [82] -/
def zf_M_forget (N : Nat) (σ : zS) (x1 : Int32) : Option (zS) :=
  zb_M_forget_2 N N σ x1 0
/-- RX12.at [82] -/
def zf_M_at (σ : zS) (x1 : Int32) : Option (Int32) :=
  some ((14 + (6 * x1)))
def zb_M_letGo_42 (k2 : zS → Int32 → Int32 → Option (zS)) (N : Nat) (σ : zS) (v1 : Int32) (v2 : Int32) : Option (zS) :=
  k2 σ v1 (v2 + 1)
def zb_M_letGo_2 (N : Nat) : Nat → zS → Int32 → Int32 → Option (zS)
  | 0, _, _, _ => none
  | n + 1, σ, v1, v2 =>
    if 4 ≤ v2 then
      some (σ)
    else
      if 0 ≤ (6 + v2) ∧ (6 + v2) < 40 then
        if ¬ (σ 107 (6 + v2).toNatClampNeg) = (v1 + 1) then
          zb_M_letGo_42 (zb_M_letGo_2 N n) N σ v1 v2
        else
          if 0 ≤ (6 + v2) ∧ (6 + v2) < 40 then
            if 0 ≤ (10 + v2) ∧ (10 + v2) < 40 then
              zb_M_letGo_42 (zb_M_letGo_2 N n) N (zx_up (zx_up σ 107 (6 + v2).toNatClampNeg 0) 107 (10 + v2).toNatClampNeg 0) v1 v2
            else none
          else none
      else none
/-- RX12.letGo [82] -/
def zf_M_letGo (N : Nat) (σ : zS) (x1 : Int32) : Option (zS) :=
  zb_M_letGo_2 N N σ x1 0
/-- RX12.goTo [82] -/
def zf_M_goTo (N : Nat) (σ : zS) (x1 : Int32) (x2 : Int32) : Option (zS) :=
  (zf_M_at σ x1).bind fun r1 =>
  if 0 ≤ r1 ∧ r1 < 40 then
    if 0 ≤ x1 ∧ x1 < 4 then
      if ¬ x2 = (σ 90 x1.toNatClampNeg) then
        some ((zx_up σ 107 r1.toNatClampNeg x2))
      else
        (zf_M_at (zx_up σ 107 r1.toNatClampNeg x2) x1).bind fun r5 =>
        if 0 ≤ (r5 + 1) ∧ (r5 + 1) < 40 then
          (zf_M_letGo N (zx_up (zx_up σ 107 r1.toNatClampNeg x2) 107 (r5 + 1).toNatClampNeg 4) x1).bind fun r7 =>
          some (r7)
        else none
    else none
  else none
/-- RX12.begin [82] -/
def zf_M_begin (N : Nat) (σ : zS) (x1 : Int32) : Option (zS) :=
  (zf_M_at σ x1).bind fun r1 =>
  if 0 ≤ (r1 + 1) ∧ (r1 + 1) < 40 then
    (zf_M_goTo N (zx_up σ 107 (r1 + 1).toNatClampNeg 1) x1 0).bind fun r3 =>
    some (r3)
  else none
def zb_M_firstState_136 (k51 : zS → Int32 → Option (zS)) (N : Nat) (σ : zS) (v1 : Int32) : Option (zS) :=
  k51 σ (v1 + 1)
def zb_M_firstState_120 (k63 : zS → Int32 → Int32 → Int32 → Option (zS)) (N : Nat) (σ : zS) (v1 : Int32) (v3 : Int32) (s0 : Int32) : Option (zS) :=
  k63 σ v1 s0 (v3 + 1)
def zb_M_firstState_119 (k63 : zS → Int32 → Int32 → Int32 → Option (zS)) (N : Nat) (σ : zS) (v1 : Int32) (v3 : Int32) : Option (zS) :=
  zb_M_firstState_120 k63 N σ v1 v3 0
def zb_M_firstState_115 (k63 : zS → Int32 → Int32 → Int32 → Option (zS)) (N : Nat) (σ : zS) (v1 : Int32) (v3 : Int32) : Option (zS) :=
  zb_M_firstState_120 k63 N σ v1 v3 1
def zb_M_firstState_63 (k51 : zS → Int32 → Option (zS)) (N : Nat) : Nat → zS → Int32 → Int32 → Int32 → Option (zS)
  | 0, _, _, _, _ => none
  | n + 1, σ, v1, v2, v3 =>
    if (24 * (σ 82 17)) ≤ v3 then
      if ¬ v2 = 0 then
        zb_M_firstState_136 k51 N σ v1
      else
        (zf_M_begin N σ v1).bind fun r6 =>
        zb_M_firstState_136 k51 N r6 v1
    else
      if ¬ v2 = 0 then
        zb_M_firstState_115 (zb_M_firstState_63 k51 N n) N σ v1 v3
      else
        if 0 ≤ (v3 / 24) ∧ (v3 / 24) < 4 then
          if (σ 90 (v3 / 24).toNatClampNeg) ≤ (zJ_rem v3 24) then
            zb_M_firstState_119 (zb_M_firstState_63 k51 N n) N σ v1 v3
          else
            if 0 ≤ v3 ∧ v3 < 96 then
              if ¬ (σ 92 v3.toNatClampNeg) = 10 then
                zb_M_firstState_119 (zb_M_firstState_63 k51 N n) N σ v1 v3
              else
                if 0 ≤ v3 ∧ v3 < 96 then
                  if ¬ (σ 93 v3.toNatClampNeg) = v1 then
                    zb_M_firstState_119 (zb_M_firstState_63 k51 N n) N σ v1 v3
                  else
                    zb_M_firstState_115 (zb_M_firstState_63 k51 N n) N σ v1 v3
                else none
            else none
        else none
def zb_M_firstState_51 (N : Nat) : Nat → zS → Int32 → Option (zS)
  | 0, _, _ => none
  | n + 1, σ, v1 =>
    if (σ 82 17) ≤ v1 then
      some (σ)
    else
      zb_M_firstState_63 (zb_M_firstState_51 N n) N N σ v1 0 0
def zb_M_firstState_23 (N : Nat) : Nat → zS → Int32 → Option (zS)
  | 0, _, _ => none
  | n + 1, σ, v1 =>
    if (σ 82 15) ≤ v1 then
      zb_M_firstState_51 N N σ 0
    else
      if 0 ≤ v1 ∧ v1 < 6 then
        if 0 ≤ v1 ∧ v1 < 40 then
          zb_M_firstState_23 N n (zx_up σ 107 v1.toNatClampNeg (σ 89 v1.toNatClampNeg)) (v1 + 1)
        else none
      else none
def zb_M_firstState_2 (N : Nat) : Nat → zS → Int32 → Option (zS)
  | 0, _, _ => none
  | n + 1, σ, v1 =>
    if 40 ≤ v1 then
      zb_M_firstState_23 N N σ 0
    else
      if 0 ≤ v1 ∧ v1 < 40 then
        zb_M_firstState_2 N n (zx_up σ 107 v1.toNatClampNeg 0) (v1 + 1)
      else none
/-- RX12.firstState [82] -/
def zf_M_firstState (N : Nat) (σ : zS) : Option (zS) :=
  zb_M_firstState_2 N N σ 0
def zb_M_put_145 (N : Nat) : Nat → zS → Int32 → Int32 → Int32 → Option (Int32 × zS)
  | 0, _, _, _, _ => none
  | n + 1, σ, v1, v2, v3 =>
    if 40 ≤ v3 then
      if 0 ≤ v1 ∧ v1 < 8192 then
        if 0 ≤ v2 ∧ v2 < 8000 then
          if 0 ≤ v1 ∧ v1 < 8192 then
            some (v2, (zx_up (zx_up (zx_up σ 110 v2.toNatClampNeg (σ 109 v1.toNatClampNeg)) 109 v1.toNatClampNeg v2) 82 52 ((σ 82 52) + 1)))
          else none
        else none
      else none
    else
      if 0 ≤ v3 ∧ v3 < 40 then
        if 0 ≤ ((40 * v2) + v3) ∧ ((40 * v2) + v3) < 320000 then
          zb_M_put_145 N n (zx_up σ 108 ((40 * v2) + v3).toNatClampNeg (zJ_byte (zJ_byte (σ 107 v3.toNatClampNeg)))) v1 v2 (v3 + 1)
        else none
      else none
def zb_M_put_105 (k50 : zS → Int32 → Int32 → Option (Int32 × zS)) (N : Nat) (σ : zS) (v1 : Int32) (v2 : Int32) (v3 : Int32) : Option (Int32 × zS) :=
  if v3 = 0 then
    if 0 ≤ v2 ∧ v2 < 8000 then
      k50 σ v1 (σ 110 v2.toNatClampNeg)
    else none
  else
    some (v2, σ)
def zb_M_put_98 (k60 : zS → Int32 → Int32 → Int32 → Int32 → Option (Int32 × zS)) (N : Nat) (σ : zS) (v1 : Int32) (v2 : Int32) (v4 : Int32) (s0 : Int32) : Option (Int32 × zS) :=
  k60 σ v1 v2 s0 (v4 + 1)
def zb_M_put_60 (k50 : zS → Int32 → Int32 → Option (Int32 × zS)) (N : Nat) : Nat → zS → Int32 → Int32 → Int32 → Int32 → Option (Int32 × zS)
  | 0, _, _, _, _, _ => none
  | n + 1, σ, v1, v2, v3, v4 =>
    if 40 ≤ v4 then
      zb_M_put_105 k50 N σ v1 v2 v3
    else
      if v3 = 0 then
        zb_M_put_105 k50 N σ v1 v2 v3
      else
        if 0 ≤ ((40 * v2) + v4) ∧ ((40 * v2) + v4) < 320000 then
          if 0 ≤ v4 ∧ v4 < 40 then
            if ¬ (σ 108 ((40 * v2) + v4).toNatClampNeg) = (σ 107 v4.toNatClampNeg) then
              zb_M_put_98 (zb_M_put_60 k50 N n) N σ v1 v2 v4 0
            else
              zb_M_put_98 (zb_M_put_60 k50 N n) N σ v1 v2 v4 1
          else none
        else none
def zb_M_put_50 (N : Nat) : Nat → zS → Int32 → Int32 → Option (Int32 × zS)
  | 0, _, _, _ => none
  | n + 1, σ, v1, v2 =>
    if v2 = (-1) then
      if ¬ (σ 82 52) = 4000 then
        zb_M_put_145 N N σ v1 ((σ 82 51) + (σ 82 52)) 0
      else
        some ((-1), σ)
    else
      zb_M_put_60 (zb_M_put_50 N n) N N σ v1 v2 1 0
def zb_M_put_5 (N : Nat) : Nat → zS → Int32 → Int32 → Option (Int32 × zS)
  | 0, _, _, _ => none
  | n + 1, σ, v1, v2 =>
    if 40 ≤ v2 then
      if 0 ≤ (v1 &&& 8191) ∧ (v1 &&& 8191) < 8192 then
        zb_M_put_50 N N σ (v1 &&& 8191) (σ 109 (v1 &&& 8191).toNatClampNeg)
      else none
    else
      if 0 ≤ v2 ∧ v2 < 40 then
        zb_M_put_5 N n σ (((v1 ^^^ (σ 107 v2.toNatClampNeg)) * (-1640531535)) ^^^ (zJ_ushr ((v1 ^^^ (σ 107 v2.toNatClampNeg)) * (-1640531535)) 15)) (v2 + 1)
      else none
/-- RX12.put [82] -/
def zf_M_put (N : Nat) (σ : zS) : Option (Int32 × zS) :=
  zb_M_put_5 N N σ 7 0
def zb_M_load_2 (N : Nat) : Nat → zS → Int32 → Int32 → Option (zS)
  | 0, _, _, _ => none
  | n + 1, σ, v1, v2 =>
    if 40 ≤ v2 then
      some (σ)
    else
      if 0 ≤ ((40 * v1) + v2) ∧ ((40 * v1) + v2) < 320000 then
        if 0 ≤ v2 ∧ v2 < 40 then
          zb_M_load_2 N n (zx_up σ 107 v2.toNatClampNeg (σ 108 ((40 * v1) + v2).toNatClampNeg)) v1 (v2 + 1)
        else none
      else none
/-- RX12.load [82] -/
def zf_M_load (N : Nat) (σ : zS) (x1 : Int32) : Option (zS) :=
  zb_M_load_2 N N σ x1 0
/-- RX12.stateOf [82] -/
def zf_M_stateOf (σ : zS) (x1 : Int32) : Option (Int32) :=
  (zf_M_at σ x1).bind fun r1 =>
  if 0 ≤ (r1 + 1) ∧ (r1 + 1) < 40 then
    some ((σ 107 (r1 + 1).toNatClampNeg))
  else none
def zb_M_touches_19 (σ : zS) : Option (Int32) :=
  some (1)
/-- RX12.touches [82] -/
def zf_M_touches (σ : zS) (x1 : Int32) : Option (Int32) :=
  if 0 ≤ x1 ∧ x1 < 96 then
    if (σ 92 x1.toNatClampNeg) = 0 then
      zb_M_touches_19 σ
    else
      if 0 ≤ x1 ∧ x1 < 96 then
        if ¬ (σ 92 x1.toNatClampNeg) = 1 then
          some (0)
        else
          zb_M_touches_19 σ
      else none
  else none
def zb_M_wouldRace_65 (σ : zS) : Option (Int32) :=
  some (1)
/-- RX12.wouldRace [82] -/
def zf_M_wouldRace (σ : zS) (x1 : Int32) (x2 : Int32) : Option (Int32) :=
  (zf_M_touches σ x1).bind fun r1 =>
  if r1 = 0 then
    some (0)
  else
    (zf_M_touches σ x2).bind fun r3 =>
    if r3 = 0 then
      some (0)
    else
      if 0 ≤ x1 ∧ x1 < 96 then
        if 0 ≤ x2 ∧ x2 < 96 then
          if ¬ (σ 93 x1.toNatClampNeg) = (σ 93 x2.toNatClampNeg) then
            some (0)
          else
            if 0 ≤ x1 ∧ x1 < 96 then
              if 0 ≤ (σ 93 x1.toNatClampNeg) ∧ (σ 93 x1.toNatClampNeg) < 6 then
                if ¬ (σ 88 (σ 93 x1.toNatClampNeg).toNatClampNeg) = 0 then
                  some (0)
                else
                  if 0 ≤ x1 ∧ x1 < 96 then
                    if (σ 92 x1.toNatClampNeg) = 1 then
                      zb_M_wouldRace_65 σ
                    else
                      if 0 ≤ x2 ∧ x2 < 96 then
                        if ¬ (σ 92 x2.toNatClampNeg) = 1 then
                          some (0)
                        else
                          zb_M_wouldRace_65 σ
                      else none
                  else none
              else none
            else none
        else none
      else none
def zb_M_lookForRaces_115 (k14 : zS → Int32 → Int32 → Int32 → Option (zS)) (N : Nat) (σ : zS) (v1 : Int32) (v2 : Int32) (v3 : Int32) : Option (zS) :=
  k14 σ v1 v2 (v3 + 1)
def zb_M_lookForRaces_14 (k2 : zS → Int32 → Int32 → Option (zS)) (N : Nat) : Nat → zS → Int32 → Int32 → Int32 → Option (zS)
  | 0, _, _, _, _ => none
  | n + 1, σ, v1, v2, v3 =>
    if (σ 82 17) ≤ v3 then
      k2 σ v1 (v2 + 1)
    else
      (zf_M_stateOf σ v2).bind fun r3 =>
      if ¬ r3 = 1 then
        zb_M_lookForRaces_115 (zb_M_lookForRaces_14 k2 N n) N σ v1 v2 v3
      else
        (zf_M_stateOf σ v3).bind fun r5 =>
        if ¬ r5 = 1 then
          zb_M_lookForRaces_115 (zb_M_lookForRaces_14 k2 N n) N σ v1 v2 v3
        else
          (zf_M_at σ v2).bind fun r7 =>
          if 0 ≤ r7 ∧ r7 < 40 then
            (zf_M_at σ v3).bind fun r9 =>
            if 0 ≤ r9 ∧ r9 < 40 then
              (zf_M_wouldRace σ ((24 * v2) + (σ 107 r7.toNatClampNeg)) ((24 * v3) + (σ 107 r9.toNatClampNeg))).bind fun r11 =>
              if r11 = 0 then
                zb_M_lookForRaces_115 (zb_M_lookForRaces_14 k2 N n) N σ v1 v2 v3
              else
                if 0 ≤ ((96 * ((24 * v2) + (σ 107 r7.toNatClampNeg))) + ((24 * v3) + (σ 107 r9.toNatClampNeg))) ∧ ((96 * ((24 * v2) + (σ 107 r7.toNatClampNeg))) + ((24 * v3) + (σ 107 r9.toNatClampNeg))) < 9216 then
                  if ¬ (σ 114 ((96 * ((24 * v2) + (σ 107 r7.toNatClampNeg))) + ((24 * v3) + (σ 107 r9.toNatClampNeg))).toNatClampNeg) = 0 then
                    zb_M_lookForRaces_115 (zb_M_lookForRaces_14 k2 N n) N σ v1 v2 v3
                  else
                    if 0 ≤ ((96 * ((24 * v2) + (σ 107 r7.toNatClampNeg))) + ((24 * v3) + (σ 107 r9.toNatClampNeg))) ∧ ((96 * ((24 * v2) + (σ 107 r7.toNatClampNeg))) + ((24 * v3) + (σ 107 r9.toNatClampNeg))) < 9216 then
                      zb_M_lookForRaces_115 (zb_M_lookForRaces_14 k2 N n) N (zx_up σ 114 ((96 * ((24 * v2) + (σ 107 r7.toNatClampNeg))) + ((24 * v3) + (σ 107 r9.toNatClampNeg))).toNatClampNeg (v1 + 1)) v1 v2 v3
                    else none
                else none
            else none
          else none
def zb_M_lookForRaces_2 (N : Nat) : Nat → zS → Int32 → Int32 → Option (zS)
  | 0, _, _, _ => none
  | n + 1, σ, v1, v2 =>
    if (σ 82 17) ≤ v2 then
      some (σ)
    else
      zb_M_lookForRaces_14 (zb_M_lookForRaces_2 N n) N N σ v1 v2 (v2 + 1)
/-- RX12.lookForRaces [82] -/
def zf_M_lookForRaces (N : Nat) (σ : zS) (x1 : Int32) : Option (zS) :=
  zb_M_lookForRaces_2 N N σ x1 0
def zb_M_isOutcome_206 (k66 : zS → Int32 → Int32 → Int32 → Int32 → Int32 → Int32 → Option (Int32)) (N : Nat) (σ : zS) (v1 : Int32) (v2 : Int32) (v3 : Int32) (v4 : Int32) (v6 : Int32) (s0 : Int32) : Option (Int32) :=
  k66 σ v1 v2 v3 v4 s0 (v6 + 1)
def zb_M_isOutcome_205 (k66 : zS → Int32 → Int32 → Int32 → Int32 → Int32 → Int32 → Option (Int32)) (N : Nat) (σ : zS) (v1 : Int32) (v2 : Int32) (v3 : Int32) (v4 : Int32) (v6 : Int32) : Option (Int32) :=
  zb_M_isOutcome_206 k66 N σ v1 v2 v3 v4 v6 0
def zb_M_isOutcome_201 (k66 : zS → Int32 → Int32 → Int32 → Int32 → Int32 → Int32 → Option (Int32)) (N : Nat) (σ : zS) (v1 : Int32) (v2 : Int32) (v3 : Int32) (v4 : Int32) (v6 : Int32) : Option (Int32) :=
  zb_M_isOutcome_206 k66 N σ v1 v2 v3 v4 v6 1
def zb_M_isOutcome_177 (k66 : zS → Int32 → Int32 → Int32 → Int32 → Int32 → Int32 → Option (Int32)) (N : Nat) (σ : zS) (v1 : Int32) (v2 : Int32) (v3 : Int32) (v5 : Int32) (v6 : Int32) (v8 : Int32) (s0 : Int32) : Option (Int32) :=
  if ¬ v5 = 0 then
    zb_M_isOutcome_201 k66 N σ v1 v2 v3 s0 v6
  else
    if v8 = 4 then
      zb_M_isOutcome_205 k66 N σ v1 v2 v3 s0 v6
    else
      if v8 = 5 then
        zb_M_isOutcome_205 k66 N σ v1 v2 v3 s0 v6
      else
        if v8 = 0 then
          zb_M_isOutcome_205 k66 N σ v1 v2 v3 s0 v6
        else
          zb_M_isOutcome_201 k66 N σ v1 v2 v3 s0 v6
def zb_M_isOutcome_176 (k66 : zS → Int32 → Int32 → Int32 → Int32 → Int32 → Int32 → Option (Int32)) (N : Nat) (σ : zS) (v1 : Int32) (v2 : Int32) (v3 : Int32) (v5 : Int32) (v6 : Int32) (v8 : Int32) : Option (Int32) :=
  zb_M_isOutcome_177 k66 N σ v1 v2 v3 v5 v6 v8 0
def zb_M_isOutcome_172 (k66 : zS → Int32 → Int32 → Int32 → Int32 → Int32 → Int32 → Option (Int32)) (N : Nat) (σ : zS) (v1 : Int32) (v2 : Int32) (v3 : Int32) (v5 : Int32) (v6 : Int32) (v8 : Int32) : Option (Int32) :=
  zb_M_isOutcome_177 k66 N σ v1 v2 v3 v5 v6 v8 1
def zb_M_isOutcome_149 (k66 : zS → Int32 → Int32 → Int32 → Int32 → Int32 → Int32 → Option (Int32)) (N : Nat) (σ : zS) (v1 : Int32) (v2 : Int32) (v4 : Int32) (v5 : Int32) (v6 : Int32) (v7 : Int32) (v8 : Int32) (s0 : Int32) : Option (Int32) :=
  if ¬ v4 = 0 then
    zb_M_isOutcome_172 k66 N σ v1 v2 s0 v5 v6 v8
  else
    if v7 = 4 then
      zb_M_isOutcome_176 k66 N σ v1 v2 s0 v5 v6 v8
    else
      if v7 = 5 then
        zb_M_isOutcome_176 k66 N σ v1 v2 s0 v5 v6 v8
      else
        if v7 = 0 then
          zb_M_isOutcome_176 k66 N σ v1 v2 s0 v5 v6 v8
        else
          zb_M_isOutcome_172 k66 N σ v1 v2 s0 v5 v6 v8
def zb_M_isOutcome_148 (k66 : zS → Int32 → Int32 → Int32 → Int32 → Int32 → Int32 → Option (Int32)) (N : Nat) (σ : zS) (v1 : Int32) (v2 : Int32) (v4 : Int32) (v5 : Int32) (v6 : Int32) (v7 : Int32) (v8 : Int32) : Option (Int32) :=
  zb_M_isOutcome_149 k66 N σ v1 v2 v4 v5 v6 v7 v8 0
def zb_M_isOutcome_141 (k66 : zS → Int32 → Int32 → Int32 → Int32 → Int32 → Int32 → Option (Int32)) (N : Nat) (σ : zS) (v1 : Int32) (v2 : Int32) (v4 : Int32) (v5 : Int32) (v6 : Int32) (v7 : Int32) (v8 : Int32) (s0 : Int32) (s1 : Int32) : Option (Int32) :=
  if ¬ s1 = s0 then
    zb_M_isOutcome_148 k66 N σ v1 v2 v4 v5 v6 v7 v8
  else
    zb_M_isOutcome_149 k66 N σ v1 v2 v4 v5 v6 v7 v8 1
def zb_M_isOutcome_130 (k66 : zS → Int32 → Int32 → Int32 → Int32 → Int32 → Int32 → Option (Int32)) (N : Nat) (σ : zS) (v1 : Int32) (v2 : Int32) (v4 : Int32) (v5 : Int32) (v6 : Int32) (v7 : Int32) (v8 : Int32) (s0 : Int32) : Option (Int32) :=
  if ¬ v8 = 5 then
    zb_M_isOutcome_141 k66 N σ v1 v2 v4 v5 v6 v7 v8 0 s0
  else
    zb_M_isOutcome_141 k66 N σ v1 v2 v4 v5 v6 v7 v8 1 s0
def zb_M_isOutcome_66 (N : Nat) : Nat → zS → Int32 → Int32 → Int32 → Int32 → Int32 → Int32 → Option (Int32)
  | 0, _, _, _, _, _, _, _ => none
  | n + 1, σ, v1, v2, v3, v4, v5, v6 =>
    if (σ 82 17) ≤ v6 then
      if v3 = 0 then
        some (0)
      else
        if ¬ v4 = v5 then
          some (0)
        else
          some (1)
    else
      (zf_M_at σ v6).bind fun r5 =>
      if 0 ≤ (((40 * v1) + r5) + 1) ∧ (((40 * v1) + r5) + 1) < 320000 then
        (zf_M_at σ v6).bind fun r7 =>
        if 0 ≤ (((40 * v2) + r7) + 1) ∧ (((40 * v2) + r7) + 1) < 320000 then
          if v3 = 0 then
            zb_M_isOutcome_148 (zb_M_isOutcome_66 N n) N σ v1 v2 v4 v5 v6 (σ 108 (((40 * v1) + r5) + 1).toNatClampNeg) (σ 108 (((40 * v2) + r7) + 1).toNatClampNeg)
          else
            if ¬ (σ 108 (((40 * v1) + r5) + 1).toNatClampNeg) = 5 then
              zb_M_isOutcome_130 (zb_M_isOutcome_66 N n) N σ v1 v2 v4 v5 v6 (σ 108 (((40 * v1) + r5) + 1).toNatClampNeg) (σ 108 (((40 * v2) + r7) + 1).toNatClampNeg) 0
            else
              zb_M_isOutcome_130 (zb_M_isOutcome_66 N n) N σ v1 v2 v4 v5 v6 (σ 108 (((40 * v1) + r5) + 1).toNatClampNeg) (σ 108 (((40 * v2) + r7) + 1).toNatClampNeg) 1
        else none
      else none
def zb_M_isOutcome_50 (k5 : zS → Int32 → Int32 → Int32 → Int32 → Option (Int32)) (N : Nat) (σ : zS) (v1 : Int32) (v2 : Int32) (v4 : Int32) (s0 : Int32) : Option (Int32) :=
  k5 σ v1 v2 s0 (v4 + 1)
def zb_M_isOutcome_49 (k5 : zS → Int32 → Int32 → Int32 → Int32 → Option (Int32)) (N : Nat) (σ : zS) (v1 : Int32) (v2 : Int32) (v4 : Int32) : Option (Int32) :=
  zb_M_isOutcome_50 k5 N σ v1 v2 v4 0
def zb_M_isOutcome_5 (N : Nat) : Nat → zS → Int32 → Int32 → Int32 → Int32 → Option (Int32)
  | 0, _, _, _, _, _ => none
  | n + 1, σ, v1, v2, v3, v4 =>
    if (σ 82 15) ≤ v4 then
      zb_M_isOutcome_66 N N σ v1 v2 v3 0 0 0
    else
      if v3 = 0 then
        zb_M_isOutcome_49 (zb_M_isOutcome_5 N n) N σ v1 v2 v4
      else
        if 0 ≤ ((40 * v1) + v4) ∧ ((40 * v1) + v4) < 320000 then
          if 0 ≤ ((40 * v2) + v4) ∧ ((40 * v2) + v4) < 320000 then
            if ¬ (σ 108 ((40 * v1) + v4).toNatClampNeg) = (σ 108 ((40 * v2) + v4).toNatClampNeg) then
              zb_M_isOutcome_49 (zb_M_isOutcome_5 N n) N σ v1 v2 v4
            else
              zb_M_isOutcome_50 (zb_M_isOutcome_5 N n) N σ v1 v2 v4 1
          else none
        else none
/-- RX12.isOutcome [82] -/
def zf_M_isOutcome (N : Nat) (σ : zS) (x1 : Int32) (x2 : Int32) : Option (Int32) :=
  zb_M_isOutcome_5 N N σ x1 x2 1 0
def zb_M_lastKind_32 (k2 : zS → Int32 → Option (Int32)) (N : Nat) (σ : zS) (v1 : Int32) : Option (Int32) :=
  k2 σ (v1 + 1)
def zb_M_lastKind_2 (N : Nat) : Nat → zS → Int32 → Option (Int32)
  | 0, _, _ => none
  | n + 1, σ, v1 =>
    if (σ 82 17) ≤ v1 then
      some (1)
    else
      (zf_M_stateOf σ v1).bind fun r2 =>
      if r2 = 4 then
        zb_M_lastKind_32 (zb_M_lastKind_2 N n) N σ v1
      else
        if r2 = 5 then
          zb_M_lastKind_32 (zb_M_lastKind_2 N n) N σ v1
        else
          if r2 = 0 then
            zb_M_lastKind_32 (zb_M_lastKind_2 N n) N σ v1
          else
            some (2)
/-- RX12.lastKind [82] -/
def zf_M_lastKind (N : Nat) (σ : zS) : Option (Int32) :=
  zb_M_lastKind_2 N N σ 0
def zb_M_canStep_141 (σ : zS) : Option (Int32) :=
  some (1)
def zb_M_canStep_96 (σ : zS) : Option (Int32) :=
  some (1)
/-- RX12.canStep [82] -/
def zf_M_canStep (σ : zS) (x1 : Int32) : Option (Int32) :=
  (zf_M_stateOf σ x1).bind fun r1 =>
  (zf_M_at σ x1).bind fun r2 =>
  if 0 ≤ r2 ∧ r2 < 40 then
    if ¬ r1 = 3 then
      if r1 = 1 then
        if 0 ≤ ((24 * x1) + (σ 107 r2.toNatClampNeg)) ∧ ((24 * x1) + (σ 107 r2.toNatClampNeg)) < 96 then
          if ¬ (σ 92 ((24 * x1) + (σ 107 r2.toNatClampNeg)).toNatClampNeg) = 3 then
            if 0 ≤ ((24 * x1) + (σ 107 r2.toNatClampNeg)) ∧ ((24 * x1) + (σ 107 r2.toNatClampNeg)) < 96 then
              if ¬ (σ 92 ((24 * x1) + (σ 107 r2.toNatClampNeg)).toNatClampNeg) = 11 then
                zb_M_canStep_141 σ
              else
                if 0 ≤ ((24 * x1) + (σ 107 r2.toNatClampNeg)) ∧ ((24 * x1) + (σ 107 r2.toNatClampNeg)) < 96 then
                  (zf_M_stateOf σ (σ 93 ((24 * x1) + (σ 107 r2.toNatClampNeg)).toNatClampNeg)).bind fun r11 =>
                  if r11 = 4 then
                    zb_M_canStep_141 σ
                  else
                    if 0 ≤ ((24 * x1) + (σ 107 r2.toNatClampNeg)) ∧ ((24 * x1) + (σ 107 r2.toNatClampNeg)) < 96 then
                      (zf_M_stateOf σ (σ 93 ((24 * x1) + (σ 107 r2.toNatClampNeg)).toNatClampNeg)).bind fun r14 =>
                      if ¬ r14 = 5 then
                        some (0)
                      else
                        zb_M_canStep_141 σ
                    else none
                else none
            else none
          else
            if 0 ≤ ((24 * x1) + (σ 107 r2.toNatClampNeg)) ∧ ((24 * x1) + (σ 107 r2.toNatClampNeg)) < 96 then
              if 0 ≤ (6 + (σ 93 ((24 * x1) + (σ 107 r2.toNatClampNeg)).toNatClampNeg)) ∧ (6 + (σ 93 ((24 * x1) + (σ 107 r2.toNatClampNeg)).toNatClampNeg)) < 40 then
                if (σ 107 (6 + (σ 93 ((24 * x1) + (σ 107 r2.toNatClampNeg)).toNatClampNeg)).toNatClampNeg) = 0 then
                  zb_M_canStep_96 σ
                else
                  if ¬ (σ 107 (6 + (σ 93 ((24 * x1) + (σ 107 r2.toNatClampNeg)).toNatClampNeg)).toNatClampNeg) = (x1 + 1) then
                    some (0)
                  else
                    zb_M_canStep_96 σ
              else none
            else none
        else none
      else
        some (0)
    else
      if 0 ≤ ((24 * x1) + (σ 107 r2.toNatClampNeg)) ∧ ((24 * x1) + (σ 107 r2.toNatClampNeg)) < 96 then
        if 0 ≤ (6 + (σ 93 ((24 * x1) + (σ 107 r2.toNatClampNeg)).toNatClampNeg)) ∧ (6 + (σ 93 ((24 * x1) + (σ 107 r2.toNatClampNeg)).toNatClampNeg)) < 40 then
          if ¬ (σ 107 (6 + (σ 93 ((24 * x1) + (σ 107 r2.toNatClampNeg)).toNatClampNeg)).toNatClampNeg) = 0 then
            some (0)
          else
            some (1)
        else none
      else none
  else none
/-- RX12.valueOf [82] -/
def zf_M_valueOf (σ : zS) (x1 : Int32) (x2 : Int32) : Option (Int32) :=
  if 8 ≤ x2 then
    (zf_M_at σ x1).bind fun r2 =>
    if 0 ≤ (((r2 + 2) + x2) - 8) ∧ (((r2 + 2) + x2) - 8) < 40 then
      some ((σ 107 (((r2 + 2) + x2) - 8).toNatClampNeg))
    else none
  else
    some (x2)
/-- RX12.isSo [82] -/
def zf_M_isSo (σ : zS) (x1 : Int32) (x2 : Int32) : Option (Int32) :=
  if 0 ≤ x2 ∧ x2 < 96 then
    (zf_M_valueOf σ x1 (σ 99 x2.toNatClampNeg)).bind fun r2 =>
    if 0 ≤ x2 ∧ x2 < 96 then
      (zf_M_valueOf σ x1 (σ 100 x2.toNatClampNeg)).bind fun r4 =>
      if 0 ≤ x2 ∧ x2 < 96 then
        if ¬ (σ 101 x2.toNatClampNeg) = 1000 then
          if 0 ≤ x2 ∧ x2 < 96 then
            if ¬ (σ 101 x2.toNatClampNeg) = 1001 then
              if 0 ≤ x2 ∧ x2 < 96 then
                if ¬ (σ 101 x2.toNatClampNeg) = 60 then
                  if r2 ≤ r4 then
                    some (0)
                  else
                    some (1)
                else
                  if r4 ≤ r2 then
                    some (0)
                  else
                    some (1)
              else none
            else
              if r2 = r4 then
                some (0)
              else
                some (1)
          else none
        else
          if ¬ r2 = r4 then
            some (0)
          else
            some (1)
      else none
    else none
  else none
/-- RX12.failing [82] -/
def zf_M_failing (N : Nat) (σ : zS) (x1 : Int32) : Option (zS) :=
  (zf_M_at σ x1).bind fun r1 =>
  if 0 ≤ (r1 + 1) ∧ (r1 + 1) < 40 then
    (zf_M_letGo N (zx_up σ 107 (r1 + 1).toNatClampNeg 5) x1).bind fun r3 =>
    some (r3)
  else none
def zb_M_wake_70 (k5 : zS → Int32 → Int32 → Int32 → Int32 → Option (zS)) (N : Nat) (σ : zS) (v1 : Int32) (v2 : Int32) (v3 : Int32) (v4 : Int32) : Option (zS) :=
  k5 σ v1 v2 v3 (v4 + 1)
def zb_M_wake_5 (N : Nat) : Nat → zS → Int32 → Int32 → Int32 → Int32 → Option (zS)
  | 0, _, _, _, _, _ => none
  | n + 1, σ, v1, v2, v3, v4 =>
    if (σ 82 17) ≤ v4 then
      some (σ)
    else
      if v3 = 0 then
        some (σ)
      else
        (zf_M_stateOf σ v4).bind fun r3 =>
        if ¬ r3 = 2 then
          zb_M_wake_70 (zb_M_wake_5 N n) N σ v1 v2 v3 v4
        else
          (zf_M_at σ v4).bind fun r5 =>
          if 0 ≤ r5 ∧ r5 < 40 then
            if 0 ≤ ((24 * v4) + (σ 107 r5.toNatClampNeg)) ∧ ((24 * v4) + (σ 107 r5.toNatClampNeg)) < 96 then
              if ¬ (σ 93 ((24 * v4) + (σ 107 r5.toNatClampNeg)).toNatClampNeg) = v1 then
                zb_M_wake_70 (zb_M_wake_5 N n) N σ v1 v2 v3 v4
              else
                (zf_M_at σ v4).bind fun r9 =>
                if 0 ≤ (r9 + 1) ∧ (r9 + 1) < 40 then
                  zb_M_wake_70 (zb_M_wake_5 N n) N (zx_up σ 107 (r9 + 1).toNatClampNeg 3) v1 v2 v2 v4
                else none
            else none
          else none
/-- RX12.wake [82] -/
def zf_M_wake (N : Nat) (σ : zS) (x1 : Int32) (x2 : Int32) : Option (zS) :=
  zb_M_wake_5 N N σ x1 x2 1 0
def zb_M_doStep_618 (N : Nat) (σ : zS) (v1 : Int32) (v2 : Int32) : Option (zS) :=
  if 0 ≤ v2 ∧ v2 < 96 then
    (zf_M_goTo N σ v1 (σ 94 v2.toNatClampNeg)).bind fun r25 =>
    some (r25)
  else none
def zb_M_doStep_563 (N : Nat) (σ : zS) (v1 : Int32) (v2 : Int32) (s0 : Int32) (s1 : Int32) : Option (zS) :=
  (zf_M_wake N σ s1 s0).bind fun r38 =>
  zb_M_doStep_618 N r38 v1 v2
def zb_M_doStep_462 (N : Nat) (σ : zS) (s0 : Int32) (s1 : Int32) : Option (zS) :=
  (zf_M_goTo N σ s1 s0).bind fun r56 =>
  some (r56)
def zb_M_doStep_432 (N : Nat) (σ : zS) (v1 : Int32) (v2 : Int32) (s0 : Int32) (s1 : Int32) : Option (zS) :=
  if 0 ≤ s1 ∧ s1 < 40 then
    zb_M_doStep_618 N (zx_up σ 107 s1.toNatClampNeg s0) v1 v2
  else none
def zb_M_doStep_335 (N : Nat) (σ : zS) (v1 : Int32) (v2 : Int32) (s0 : Int32) : Option (zS) :=
  (zf_M_at σ v1).bind fun r76 =>
  if 0 ≤ v2 ∧ v2 < 96 then
    if 0 ≤ ((r76 + 2) + (σ 98 v2.toNatClampNeg)) ∧ ((r76 + 2) + (σ 98 v2.toNatClampNeg)) < 40 then
      zb_M_doStep_618 N (zx_up σ 107 ((r76 + 2) + (σ 98 v2.toNatClampNeg)).toNatClampNeg (s0 &&& 7)) v1 v2
    else none
  else none
def zb_M_doStep_139 (N : Nat) (σ : zS) (v1 : Int32) (v2 : Int32) (v3 : Int32) (s0 : Int32) : Option (zS) :=
  if 0 ≤ v2 ∧ v2 < 96 then
    if (σ 92 v2.toNatClampNeg) = 0 then
      (zf_M_at σ v1).bind fun r86 =>
      if 0 ≤ v2 ∧ v2 < 96 then
        if 0 ≤ v3 ∧ v3 < 40 then
          if 0 ≤ ((r86 + 2) + (σ 98 v2.toNatClampNeg)) ∧ ((r86 + 2) + (σ 98 v2.toNatClampNeg)) < 40 then
            zb_M_doStep_618 N (zx_up σ 107 ((r86 + 2) + (σ 98 v2.toNatClampNeg)).toNatClampNeg (σ 107 v3.toNatClampNeg)) v1 v2
          else none
        else none
      else none
    else
      if (σ 92 v2.toNatClampNeg) = 1 then
        if 0 ≤ v2 ∧ v2 < 96 then
          (zf_M_valueOf σ v1 (σ 99 v2.toNatClampNeg)).bind fun r84 =>
          if 0 ≤ v3 ∧ v3 < 40 then
            zb_M_doStep_618 N (zx_up σ 107 v3.toNatClampNeg r84) v1 v2
          else none
        else none
      else
        if (σ 92 v2.toNatClampNeg) = 2 then
          if 0 ≤ v2 ∧ v2 < 96 then
            (zf_M_valueOf σ v1 (σ 99 v2.toNatClampNeg)).bind fun r71 =>
            if 0 ≤ v2 ∧ v2 < 96 then
              if ¬ (σ 101 v2.toNatClampNeg) = 43 then
                if 0 ≤ v2 ∧ v2 < 96 then
                  if ¬ (σ 101 v2.toNatClampNeg) = 45 then
                    zb_M_doStep_335 N σ v1 v2 r71
                  else
                    if 0 ≤ v2 ∧ v2 < 96 then
                      (zf_M_valueOf σ v1 (σ 100 v2.toNatClampNeg)).bind fun r80 =>
                      zb_M_doStep_335 N σ v1 v2 (r71 - r80)
                    else none
                else none
              else
                if 0 ≤ v2 ∧ v2 < 96 then
                  (zf_M_valueOf σ v1 (σ 100 v2.toNatClampNeg)).bind fun r82 =>
                  zb_M_doStep_335 N σ v1 v2 (r71 + r82)
                else none
            else none
          else none
        else
          if (σ 92 v2.toNatClampNeg) = 3 then
            if 0 ≤ (6 + v3) ∧ (6 + v3) < 40 then
              if 0 ≤ (10 + v3) ∧ (10 + v3) < 40 then
                if 0 ≤ (10 + v3) ∧ (10 + v3) < 40 then
                  zb_M_doStep_618 N (zx_up (zx_up σ 107 (6 + v3).toNatClampNeg (v1 + 1)) 107 (10 + v3).toNatClampNeg (((zx_up σ 107 (6 + v3).toNatClampNeg (v1 + 1)) 107 (10 + v3).toNatClampNeg) + 1)) v1 v2
                else none
              else none
            else none
          else
            if (σ 92 v2.toNatClampNeg) = 4 then
              if 0 ≤ (10 + v3) ∧ (10 + v3) < 40 then
                if 0 ≤ (10 + v3) ∧ (10 + v3) < 40 then
                  if 0 ≤ (10 + v3) ∧ (10 + v3) < 40 then
                    if ¬ ((σ 107 (10 + v3).toNatClampNeg) - 1) = 0 then
                      zb_M_doStep_432 N (zx_up σ 107 (10 + v3).toNatClampNeg ((σ 107 (10 + v3).toNatClampNeg) - 1)) v1 v2 (v1 + 1) (6 + v3)
                    else
                      zb_M_doStep_432 N (zx_up σ 107 (10 + v3).toNatClampNeg ((σ 107 (10 + v3).toNatClampNeg) - 1)) v1 v2 0 (6 + v3)
                  else none
                else none
              else none
            else
              if (σ 92 v2.toNatClampNeg) = 5 then
                (zf_M_isSo σ v1 v2).bind fun r58 =>
                if r58 = 0 then
                  if 0 ≤ v2 ∧ v2 < 96 then
                    zb_M_doStep_462 N σ (σ 95 v2.toNatClampNeg) v1
                  else none
                else
                  if 0 ≤ v2 ∧ v2 < 96 then
                    zb_M_doStep_462 N σ (σ 94 v2.toNatClampNeg) v1
                  else none
              else
                if (σ 92 v2.toNatClampNeg) = 6 then
                  (zf_M_isSo σ v1 v2).bind fun r53 =>
                  if r53 = 0 then
                    if 0 ≤ v2 ∧ v2 < 96 then
                      zb_M_doStep_462 N σ (σ 95 v2.toNatClampNeg) v1
                    else none
                  else
                    if 0 ≤ v2 ∧ v2 < 96 then
                      zb_M_doStep_462 N σ (σ 94 v2.toNatClampNeg) v1
                    else none
                else
                  if (σ 92 v2.toNatClampNeg) = 7 then
                    if s0 = 0 then
                      (zf_M_failing N σ v1).bind fun r45 =>
                      some (r45)
                    else
                      (zf_M_at σ v1).bind fun r46 =>
                      if 0 ≤ (10 + v3) ∧ (10 + v3) < 40 then
                        if 0 ≤ (r46 + 5) ∧ (r46 + 5) < 40 then
                          if 0 ≤ (6 + v3) ∧ (6 + v3) < 40 then
                            if 0 ≤ (10 + v3) ∧ (10 + v3) < 40 then
                              (zf_M_at (zx_up (zx_up (zx_up σ 107 (r46 + 5).toNatClampNeg (σ 107 (10 + v3).toNatClampNeg)) 107 (6 + v3).toNatClampNeg 0) 107 (10 + v3).toNatClampNeg 0) v1).bind fun r51 =>
                              if 0 ≤ (r51 + 1) ∧ (r51 + 1) < 40 then
                                some ((zx_up (zx_up (zx_up (zx_up σ 107 (r46 + 5).toNatClampNeg (σ 107 (10 + v3).toNatClampNeg)) 107 (6 + v3).toNatClampNeg 0) 107 (10 + v3).toNatClampNeg 0) 107 (r51 + 1).toNatClampNeg 2))
                              else none
                            else none
                          else none
                        else none
                      else none
                  else
                    if (σ 92 v2.toNatClampNeg) = 8 then
                      if ¬ s0 = 0 then
                        if 0 ≤ v2 ∧ v2 < 96 then
                          if ¬ (σ 92 v2.toNatClampNeg) = 9 then
                            zb_M_doStep_563 N σ v1 v2 0 v3
                          else
                            zb_M_doStep_563 N σ v1 v2 1 v3
                        else none
                      else
                        (zf_M_failing N σ v1).bind fun r43 =>
                        some (r43)
                    else
                      if (σ 92 v2.toNatClampNeg) = 9 then
                        if ¬ s0 = 0 then
                          if 0 ≤ v2 ∧ v2 < 96 then
                            if ¬ (σ 92 v2.toNatClampNeg) = 9 then
                              zb_M_doStep_563 N σ v1 v2 0 v3
                            else
                              zb_M_doStep_563 N σ v1 v2 1 v3
                          else none
                        else
                          (zf_M_failing N σ v1).bind fun r39 =>
                          some (r39)
                      else
                        if (σ 92 v2.toNatClampNeg) = 10 then
                          (zf_M_stateOf σ v3).bind fun r31 =>
                          if r31 = 0 then
                            (zf_M_begin N σ v3).bind fun r33 =>
                            zb_M_doStep_618 N r33 v1 v2
                          else
                            (zf_M_failing N σ v1).bind fun r34 =>
                            some (r34)
                        else
                          if (σ 92 v2.toNatClampNeg) = 11 then
                            zb_M_doStep_618 N σ v1 v2
                          else
                            if (σ 92 v2.toNatClampNeg) = 12 then
                              (zf_M_isSo σ v1 v2).bind fun r28 =>
                              if ¬ r28 = 0 then
                                zb_M_doStep_618 N σ v1 v2
                              else
                                (zf_M_failing N σ v1).bind fun r30 =>
                                some (r30)
                            else
                              if (σ 92 v2.toNatClampNeg) = 13 then
                                if 0 ≤ v1 ∧ v1 < 4 then
                                  (zf_M_goTo N σ v1 (σ 90 v1.toNatClampNeg)).bind fun r27 =>
                                  some (r27)
                                else none
                              else
                                zb_M_doStep_618 N σ v1 v2
  else none
def zb_M_doStep_138 (N : Nat) (σ : zS) (v1 : Int32) (v2 : Int32) (v3 : Int32) : Option (zS) :=
  zb_M_doStep_139 N σ v1 v2 v3 0
/-- RX12.doStep [82] -/
def zf_M_doStep (N : Nat) (σ : zS) (x1 : Int32) : Option (zS) :=
  (zf_M_at σ x1).bind fun r1 =>
  if 0 ≤ r1 ∧ r1 < 40 then
    if 0 ≤ ((24 * x1) + (σ 107 r1.toNatClampNeg)) ∧ ((24 * x1) + (σ 107 r1.toNatClampNeg)) < 96 then
      (zf_M_stateOf σ x1).bind fun r4 =>
      if ¬ r4 = 3 then
        if 0 ≤ ((24 * x1) + (σ 107 r1.toNatClampNeg)) ∧ ((24 * x1) + (σ 107 r1.toNatClampNeg)) < 96 then
          (zf_M_in σ (σ 92 ((24 * x1) + (σ 107 r1.toNatClampNeg)).toNatClampNeg) 7 9).bind fun r7 =>
          if r7 = 0 then
            zb_M_doStep_138 N σ x1 ((24 * x1) + (σ 107 r1.toNatClampNeg)) (σ 93 ((24 * x1) + (σ 107 r1.toNatClampNeg)).toNatClampNeg)
          else
            if 0 ≤ (6 + (σ 93 ((24 * x1) + (σ 107 r1.toNatClampNeg)).toNatClampNeg)) ∧ (6 + (σ 93 ((24 * x1) + (σ 107 r1.toNatClampNeg)).toNatClampNeg)) < 40 then
              if ¬ (σ 107 (6 + (σ 93 ((24 * x1) + (σ 107 r1.toNatClampNeg)).toNatClampNeg)).toNatClampNeg) = (x1 + 1) then
                zb_M_doStep_138 N σ x1 ((24 * x1) + (σ 107 r1.toNatClampNeg)) (σ 93 ((24 * x1) + (σ 107 r1.toNatClampNeg)).toNatClampNeg)
              else
                zb_M_doStep_139 N σ x1 ((24 * x1) + (σ 107 r1.toNatClampNeg)) (σ 93 ((24 * x1) + (σ 107 r1.toNatClampNeg)).toNatClampNeg) 1
            else none
        else none
      else
        if 0 ≤ (6 + (σ 93 ((24 * x1) + (σ 107 r1.toNatClampNeg)).toNatClampNeg)) ∧ (6 + (σ 93 ((24 * x1) + (σ 107 r1.toNatClampNeg)).toNatClampNeg)) < 40 then
          (zf_M_at (zx_up σ 107 (6 + (σ 93 ((24 * x1) + (σ 107 r1.toNatClampNeg)).toNatClampNeg)).toNatClampNeg (x1 + 1)) x1).bind fun r93 =>
          if 0 ≤ (r93 + 5) ∧ (r93 + 5) < 40 then
            if 0 ≤ (10 + (σ 93 ((24 * x1) + (σ 107 r1.toNatClampNeg)).toNatClampNeg)) ∧ (10 + (σ 93 ((24 * x1) + (σ 107 r1.toNatClampNeg)).toNatClampNeg)) < 40 then
              (zf_M_at (zx_up (zx_up σ 107 (6 + (σ 93 ((24 * x1) + (σ 107 r1.toNatClampNeg)).toNatClampNeg)).toNatClampNeg (x1 + 1)) 107 (10 + (σ 93 ((24 * x1) + (σ 107 r1.toNatClampNeg)).toNatClampNeg)).toNatClampNeg ((zx_up σ 107 (6 + (σ 93 ((24 * x1) + (σ 107 r1.toNatClampNeg)).toNatClampNeg)).toNatClampNeg (x1 + 1)) 107 (r93 + 5).toNatClampNeg)) x1).bind fun r96 =>
              if 0 ≤ (r96 + 5) ∧ (r96 + 5) < 40 then
                (zf_M_at (zx_up (zx_up (zx_up σ 107 (6 + (σ 93 ((24 * x1) + (σ 107 r1.toNatClampNeg)).toNatClampNeg)).toNatClampNeg (x1 + 1)) 107 (10 + (σ 93 ((24 * x1) + (σ 107 r1.toNatClampNeg)).toNatClampNeg)).toNatClampNeg ((zx_up σ 107 (6 + (σ 93 ((24 * x1) + (σ 107 r1.toNatClampNeg)).toNatClampNeg)).toNatClampNeg (x1 + 1)) 107 (r93 + 5).toNatClampNeg)) 107 (r96 + 5).toNatClampNeg 0) x1).bind fun r98 =>
                if 0 ≤ (r98 + 1) ∧ (r98 + 1) < 40 then
                  if 0 ≤ ((24 * x1) + (σ 107 r1.toNatClampNeg)) ∧ ((24 * x1) + (σ 107 r1.toNatClampNeg)) < 96 then
                    (zf_M_goTo N (zx_up (zx_up (zx_up (zx_up σ 107 (6 + (σ 93 ((24 * x1) + (σ 107 r1.toNatClampNeg)).toNatClampNeg)).toNatClampNeg (x1 + 1)) 107 (10 + (σ 93 ((24 * x1) + (σ 107 r1.toNatClampNeg)).toNatClampNeg)).toNatClampNeg ((zx_up σ 107 (6 + (σ 93 ((24 * x1) + (σ 107 r1.toNatClampNeg)).toNatClampNeg)).toNatClampNeg (x1 + 1)) 107 (r93 + 5).toNatClampNeg)) 107 (r96 + 5).toNatClampNeg 0) 107 (r98 + 1).toNatClampNeg 1) x1 (σ 94 ((24 * x1) + (σ 107 r1.toNatClampNeg)).toNatClampNeg)).bind fun r101 =>
                    some (r101)
                  else none
                else none
              else none
            else none
          else none
        else none
    else none
  else none
def zb_M_run_275 (k68 : zS → Int32 → Option (Int32 × zS)) (N : Nat) (σ : zS) (v2 : Int32) : Option (Int32 × zS) :=
  k68 σ (v2 + 1)
def zb_M_run_250 (k68 : zS → Int32 → Option (Int32 × zS)) (N : Nat) (σ : zS) (v2 : Int32) (v4 : Int32) : Option (Int32 × zS) :=
  if v4 = 0 then
    zb_M_run_275 k68 N σ v2
  else
    if 0 ≤ (σ 82 60) ∧ (σ 82 60) < 4000 then
      zb_M_run_275 k68 N (zx_up (zx_up σ 115 (σ 82 60).toNatClampNeg v2) 82 60 ((σ 82 60) + 1)) v2
    else none
def zb_M_run_242 (k208 : zS → Int32 → Int32 → Int32 → Option (Int32 × zS)) (N : Nat) (σ : zS) (v2 : Int32) (v5 : Int32) (s0 : Int32) : Option (Int32 × zS) :=
  k208 σ v2 s0 (v5 + 1)
def zb_M_run_208 (k68 : zS → Int32 → Option (Int32 × zS)) (N : Nat) : Nat → zS → Int32 → Int32 → Int32 → Option (Int32 × zS)
  | 0, _, _, _, _ => none
  | n + 1, σ, v2, v4, v5 =>
    if (σ 82 60) ≤ v5 then
      zb_M_run_250 k68 N σ v2 v4
    else
      if v4 = 0 then
        zb_M_run_250 k68 N σ v2 v4
      else
        if 0 ≤ v5 ∧ v5 < 4000 then
          (zf_M_isOutcome N σ (σ 115 v5.toNatClampNeg) v2).bind fun r19 =>
          if ¬ r19 = 0 then
            zb_M_run_242 (zb_M_run_208 k68 N n) N σ v2 v5 0
          else
            zb_M_run_242 (zb_M_run_208 k68 N n) N σ v2 v5 1
        else none
def zb_M_run_197 (k68 : zS → Int32 → Option (Int32 × zS)) (N : Nat) (σ : zS) (v2 : Int32) (v3 : Int32) (s0 : Int32) (s1 : Int32) : Option (Int32 × zS) :=
  if 0 ≤ s1 ∧ s1 < 4000 then
    if v3 = 0 then
      zb_M_run_275 k68 N (zx_up σ 113 s1.toNatClampNeg s0) v2
    else
      zb_M_run_208 k68 N N (zx_up σ 113 s1.toNatClampNeg s0) v2 1 0
  else none
def zb_M_run_169 (k91 : zS → Int32 → Int32 → Int32 → Option (Int32 × zS)) (N : Nat) (σ : zS) (v2 : Int32) (v3 : Int32) (v4 : Int32) : Option (Int32 × zS) :=
  k91 σ v2 v3 (v4 + 1)
def zb_M_run_91 (k68 : zS → Int32 → Option (Int32 × zS)) (N : Nat) : Nat → zS → Int32 → Int32 → Int32 → Option (Int32 × zS)
  | 0, _, _, _, _ => none
  | n + 1, σ, v2, v3, v4 =>
    if (σ 82 17) ≤ v4 then
      (zf_M_load N σ v2).bind fun r10 =>
      if v3 = 0 then
        zb_M_run_197 k68 N r10 v2 v3 0 v2
      else
        (zf_M_lastKind N r10).bind fun r21 =>
        zb_M_run_197 k68 N r10 v2 v3 r21 v2
    else
      (zf_M_load N σ v2).bind fun r22 =>
      (zf_M_canStep r22 v4).bind fun r23 =>
      if r23 = 0 then
        zb_M_run_169 (zb_M_run_91 k68 N n) N r22 v2 v3 v4
      else
        (zf_M_doStep N r22 v4).bind fun r25 =>
        (zf_M_put N r25).bind fun r26 =>
        if ¬ r26.1 = (-1) then
          if (r26.2 82 52) ≤ (r25 82 52) then
            zb_M_run_169 (zb_M_run_91 k68 N n) N r26.2 v2 0 v4
          else
            if 0 ≤ r26.1 ∧ r26.1 < 4000 then
              if 0 ≤ r26.1 ∧ r26.1 < 4000 then
                zb_M_run_169 (zb_M_run_91 k68 N n) N (zx_up (zx_up r26.2 111 r26.1.toNatClampNeg v2) 112 r26.1.toNatClampNeg v4) v2 0 v4
              else none
            else none
        else
          some ((-103), r26.2)
def zb_M_run_68 (N : Nat) : Nat → zS → Int32 → Option (Int32 × zS)
  | 0, _, _ => none
  | n + 1, σ, v2 =>
    if (σ 82 52) ≤ v2 then
      some ((σ 82 52), (zx_up (zx_up σ 82 54 (σ 82 52)) 82 53 1))
    else
      (zf_M_load N σ v2).bind fun r7 =>
      (zf_M_lookForRaces N r7 v2).bind fun r8 =>
      zb_M_run_91 (zb_M_run_68 N n) N N r8 v2 1 0
def zb_M_run_37 (N : Nat) : Nat → zS → Int32 → Option (Int32 × zS)
  | 0, _, _ => none
  | n + 1, σ, v1 =>
    if 9216 ≤ v1 then
      (zf_M_firstState N σ).bind fun r4 =>
      (zf_M_put N r4).bind fun r5 =>
      zb_M_run_68 N N r5.2 0
    else
      if 0 ≤ v1 ∧ v1 < 9216 then
        zb_M_run_37 N n (zx_up σ 114 v1.toNatClampNeg 0) (v1 + 1)
      else none
/-- RX12.run [82] -/
def zf_M_run (N : Nat) (σ : zS) : Option (Int32 × zS) :=
  if ¬ (σ 82 21) = 0 then
    (zf_M_forget N (zx_up (zx_up (zx_up σ 82 0 0) 82 53 0) 82 62 (-1)) 0).bind fun r2 =>
    zb_M_run_37 N N (zx_up r2 82 60 0) 0
  else
    some ((-101), (zx_up σ 82 0 0))
/-- RX11.found [2] -/
def zf_X_found (σ : zS) (x1 : Int32) : Option (Int32) :=
  if ¬ (σ 2 15) = 0 then
    if x1 = 0 then
      some ((σ 47 1))
    else
      if x1 = 1 then
        some ((σ 49 1))
      else
        if x1 = 2 then
          some ((σ 53 1))
        else
          if x1 = 3 then
            some ((σ 61 1))
          else
            if x1 = 4 then
              some ((σ 51 1))
            else
              some ((-102))
  else
    some ((-101))
def zb_M_isOf_87 (k47 : zS → Int32 → Int32 → Int32 → Option (Int32)) (N : Nat) (σ : zS) (v1 : Int32) (v4 : Int32) (s0 : Int32) : Option (Int32) :=
  k47 σ v1 s0 (v4 + 1)
def zb_M_isOf_82 (k47 : zS → Int32 → Int32 → Int32 → Option (Int32)) (N : Nat) (σ : zS) (v1 : Int32) (v4 : Int32) : Option (Int32) :=
  zb_M_isOf_87 k47 N σ v1 v4 1
def zb_M_isOf_47 (N : Nat) : Nat → zS → Int32 → Int32 → Int32 → Option (Int32)
  | 0, _, _, _, _ => none
  | n + 1, σ, v1, v3, v4 =>
    if (σ 82 17) ≤ v4 then
      if v3 = 0 ∨ v3 = 1 then
        some (v3)
      else none
    else
      if ¬ v3 = 0 then
        zb_M_isOf_82 (zb_M_isOf_47 N n) N σ v1 v4
      else
        (zf_M_at σ v4).bind fun r6 =>
        if 0 ≤ (((40 * v1) + r6) + 1) ∧ (((40 * v1) + r6) + 1) < 320000 then
          if ¬ (σ 108 (((40 * v1) + r6) + 1).toNatClampNeg) = 5 then
            zb_M_isOf_87 (zb_M_isOf_47 N n) N σ v1 v4 0
          else
            zb_M_isOf_82 (zb_M_isOf_47 N n) N σ v1 v4
        else none
/-- RX12.isOf [82] -/
def zf_M_isOf (N : Nat) (σ : zS) (x1 : Int32) (x2 : Int32) : Option (Int32) :=
  if ¬ x2 = 1 then
    if ¬ x2 = 2 then
      zb_M_isOf_47 N N σ x1 0 0
    else
      if 0 ≤ x1 ∧ x1 < 4000 then
        if ¬ (σ 113 x1.toNatClampNeg) = 1 then
          some (0)
        else
          some (1)
      else none
  else
    if 0 ≤ x1 ∧ x1 < 4000 then
      if ¬ (σ 113 x1.toNatClampNeg) = 2 then
        some (0)
      else
        some (1)
    else none
def zb_M_countOf_27 (k4 : zS → Int32 → Int32 → Int32 → Option (Int32)) (N : Nat) (σ : zS) (v1 : Int32) (v3 : Int32) (s0 : Int32) (s1 : Int32) : Option (Int32) :=
  k4 σ v1 (s1 + s0) (v3 + 1)
def zb_M_countOf_4 (N : Nat) : Nat → zS → Int32 → Int32 → Int32 → Option (Int32)
  | 0, _, _, _, _ => none
  | n + 1, σ, v1, v2, v3 =>
    if (σ 82 54) ≤ v3 then
      some (v2)
    else
      (zf_M_isOf N σ v3 v1).bind fun r2 =>
      if r2 = 0 then
        zb_M_countOf_27 (zb_M_countOf_4 N n) N σ v1 v3 0 v2
      else
        zb_M_countOf_27 (zb_M_countOf_4 N n) N σ v1 v3 1 v2
/-- RX12.countOf [82] -/
def zf_M_countOf (N : Nat) (σ : zS) (x1 : Int32) : Option (Int32) :=
  zb_M_countOf_4 N N σ x1 0 0
def zb_M_races_26 (k4 : zS → Int32 → Int32 → Option (Int32)) (N : Nat) (σ : zS) (v2 : Int32) (s0 : Int32) (s1 : Int32) : Option (Int32) :=
  k4 σ (s1 + s0) (v2 + 1)
def zb_M_races_4 (N : Nat) : Nat → zS → Int32 → Int32 → Option (Int32)
  | 0, _, _, _ => none
  | n + 1, σ, v1, v2 =>
    if 9216 ≤ v2 then
      some (v1)
    else
      if 0 ≤ v2 ∧ v2 < 9216 then
        if (σ 114 v2.toNatClampNeg) ≤ 0 then
          zb_M_races_26 (zb_M_races_4 N n) N σ v2 0 v1
        else
          zb_M_races_26 (zb_M_races_4 N n) N σ v2 1 v1
      else none
/-- RX12.races [82] -/
def zf_M_races (N : Nat) (σ : zS) : Option (Int32) :=
  zb_M_races_4 N N σ 0 0
/-- RX12.found [82] -/
def zf_M_found (N : Nat) (σ : zS) (x1 : Int32) : Option (Int32 × zS) :=
  if ¬ (σ 82 53) = 0 then
    if x1 = 0 then
      (zf_M_countOf N (zx_up σ 82 0 0) 2).bind fun r10 =>
      some (r10, (zx_up σ 82 0 0))
    else
      if x1 = 1 then
        (zf_M_countOf N (zx_up σ 82 0 0) 1).bind fun r9 =>
        some (r9, (zx_up σ 82 0 0))
      else
        if x1 = 2 then
          (zf_M_races N (zx_up σ 82 0 0)).bind fun r8 =>
          some (r8, (zx_up σ 82 0 0))
        else
          if x1 = 3 then
            some ((σ 82 60), (zx_up σ 82 0 0))
          else
            if x1 = 4 then
              (zf_M_countOf N (zx_up σ 82 0 0) 4).bind fun r7 =>
              some (r7, (zx_up σ 82 0 0))
            else
              some ((-102), (zx_up σ 82 0 0))
  else
    some ((-101), (zx_up σ 82 0 0))
def zb_Numbers_get_c1_21 (σ : zS) : Option (Int32) :=
  some ((-1))
/-- RX4.get [51] -/
def zf_Numbers_get_c1 (σ : zS) (x1 : Int32) : Option (Int32) :=
  if x1 < 0 then
    zb_Numbers_get_c1_21 σ
  else
    if (σ 51 1) ≤ x1 then
      zb_Numbers_get_c1_21 σ
    else
      if x1 < 4000 then
        if 0 ≤ x1 ∧ x1 < 4000 then
          some ((σ 52 x1.toNatClampNeg))
        else none
      else
        zb_Numbers_get_c1_21 σ
def zb_Numbers_get_c2_21 (σ : zS) : Option (Int32) :=
  some ((-1))
/-- RX4.get [61] -/
def zf_Numbers_get_c2 (σ : zS) (x1 : Int32) : Option (Int32) :=
  if x1 < 0 then
    zb_Numbers_get_c2_21 σ
  else
    if (σ 61 1) ≤ x1 then
      zb_Numbers_get_c2_21 σ
    else
      if x1 < 4000 then
        if 0 ≤ x1 ∧ x1 < 4000 then
          some ((σ 62 x1.toNatClampNeg))
        else none
      else
        zb_Numbers_get_c2_21 σ
def zb_Numbers_get_c3_21 (σ : zS) : Option (Int32) :=
  some ((-1))
/-- RX4.get [47] -/
def zf_Numbers_get_c3 (σ : zS) (x1 : Int32) : Option (Int32) :=
  if x1 < 0 then
    zb_Numbers_get_c3_21 σ
  else
    if (σ 47 1) ≤ x1 then
      zb_Numbers_get_c3_21 σ
    else
      if x1 < 4000 then
        if 0 ≤ x1 ∧ x1 < 4000 then
          some ((σ 48 x1.toNatClampNeg))
        else none
      else
        zb_Numbers_get_c3_21 σ
def zb_Numbers_get_c4_21 (σ : zS) : Option (Int32) :=
  some ((-1))
/-- RX4.get [49] -/
def zf_Numbers_get_c4 (σ : zS) (x1 : Int32) : Option (Int32) :=
  if x1 < 0 then
    zb_Numbers_get_c4_21 σ
  else
    if (σ 49 1) ≤ x1 then
      zb_Numbers_get_c4_21 σ
    else
      if x1 < 4000 then
        if 0 ≤ x1 ∧ x1 < 4000 then
          some ((σ 50 x1.toNatClampNeg))
        else none
      else
        zb_Numbers_get_c4_21 σ
def zb_Numbers_get_c5_21 (σ : zS) : Option (Int32) :=
  some ((-1))
/-- RX4.get [55] -/
def zf_Numbers_get_c5 (σ : zS) (x1 : Int32) : Option (Int32) :=
  if x1 < 0 then
    zb_Numbers_get_c5_21 σ
  else
    if (σ 55 1) ≤ x1 then
      zb_Numbers_get_c5_21 σ
    else
      if x1 < 3456 then
        if 0 ≤ x1 ∧ x1 < 3456 then
          some ((σ 56 x1.toNatClampNeg))
        else none
      else
        zb_Numbers_get_c5_21 σ
/-- RX11.shownState [2] -/
def zf_X_shownState (σ : zS) (x1 : Int32) (x2 : Int32) : Option (Int32) :=
  if x1 = 0 then
    (zf_Numbers_get_c5 σ x2).bind fun r10 =>
    some (r10)
  else
    if x1 = 1 then
      (zf_Numbers_get_c4 σ x2).bind fun r9 =>
      some (r9)
    else
      if x1 = 2 then
        (zf_Numbers_get_c3 σ x2).bind fun r8 =>
        some (r8)
      else
        if x1 = 3 then
          (zf_Numbers_get_c2 σ x2).bind fun r7 =>
          some (r7)
        else
          if x1 = 4 then
            (zf_Numbers_get_c1 σ x2).bind fun r6 =>
            some (r6)
          else
            some ((-1))
def zb_Space_wayTo_90 (k51 : zS → Int32 → Int32 → Int32 → Option (Int32 × zS)) (N : Nat) (σ : zS) (v3 : Int32) (v4 : Int32) (v5 : Int32) : Option (Int32 × zS) :=
  if 0 ≤ v5 ∧ v5 < 4000 then
    k51 σ v3 (v4 + (-1)) ((σ 43 v5.toNatClampNeg) / 4)
  else none
def zb_Space_wayTo_51 (N : Nat) : Nat → zS → Int32 → Int32 → Int32 → Option (Int32 × zS)
  | 0, _, _, _, _ => none
  | n + 1, σ, v3, v4, v5 =>
    if v5 ≤ 0 then
      some (v3, σ)
    else
      (zf_Space_has σ v5).bind fun r3 =>
      if r3 = 0 then
        some (v3, σ)
      else
        if v4 < 0 then
          some (v3, σ)
        else
          if 4000 ≤ v4 then
            zb_Space_wayTo_90 (zb_Space_wayTo_51 N n) N σ v3 v4 v5
          else
            if 0 ≤ v5 ∧ v5 < 4000 then
              if 0 ≤ v4 ∧ v4 < 4000 then
                zb_Space_wayTo_90 (zb_Space_wayTo_51 N n) N (zx_up σ 81 v4.toNatClampNeg (zJ_rem (σ 43 v5.toNatClampNeg) 4)) v3 v4 v5
              else none
            else none
def zb_Space_wayTo_43 (N : Nat) (σ : zS) (v1 : Int32) (v3 : Int32) : Option (Int32 × zS) :=
  zb_Space_wayTo_51 N N σ v3 (v3 - 1) v1
def zb_Space_wayTo_5 (N : Nat) : Nat → zS → Int32 → Int32 → Int32 → Option (Int32 × zS)
  | 0, _, _, _, _ => none
  | n + 1, σ, v1, v3, v4 =>
    if v4 ≤ 0 then
      zb_Space_wayTo_43 N σ v1 v3
    else
      (zf_Space_has σ v4).bind fun r10 =>
      if r10 = 0 then
        zb_Space_wayTo_43 N σ v1 v3
      else
        if 4000 ≤ v3 then
          zb_Space_wayTo_43 N σ v1 v3
        else
          if 0 ≤ v4 ∧ v4 < 4000 then
            zb_Space_wayTo_5 N n σ v1 (v3 + 1) ((σ 43 v4.toNatClampNeg) / 4)
          else none
/-- RX8.wayTo [41, 81] -/
def zf_Space_wayTo (N : Nat) (σ : zS) (x1 : Int32) : Option (Int32 × zS) :=
  zb_Space_wayTo_5 N N σ x1 0 x1
/-- RX11.show [2] -/
def zf_X_show (N : Nat) (σ : zS) (x1 : Int32) (x2 : Int32) : Option (Int32 × zS) :=
  if ¬ (σ 2 15) = 0 then
    (zf_X_shownState σ x1 x2).bind fun r2 =>
    if ¬ r2 = (-1) then
      (zf_Space_wayTo N σ r2).bind fun r4 =>
      some (r2, (zx_up r4.2 2 16 r4.1))
    else
      some ((-102), σ)
  else
    some ((-101), σ)
def zb_M_pairOf_33 (k4 : zS → Int32 → Int32 → Int32 → Option (Int32)) (N : Nat) (σ : zS) (v1 : Int32) (v2 : Int32) (v3 : Int32) : Option (Int32) :=
  k4 σ v1 v2 (v3 + 1)
def zb_M_pairOf_4 (N : Nat) : Nat → zS → Int32 → Int32 → Int32 → Option (Int32)
  | 0, _, _, _, _ => none
  | n + 1, σ, v1, v2, v3 =>
    if 9216 ≤ v3 then
      some ((-1))
    else
      if v1 < 0 then
        some ((-1))
      else
        if 0 ≤ v3 ∧ v3 < 9216 then
          if (σ 114 v3.toNatClampNeg) ≤ 0 then
            zb_M_pairOf_33 (zb_M_pairOf_4 N n) N σ v1 v2 v3
          else
            if ¬ v2 = 0 then
              zb_M_pairOf_33 (zb_M_pairOf_4 N n) N σ v1 (v2 + (-1)) v3
            else
              some (v3)
        else none
/-- RX12.pairOf [82] -/
def zf_M_pairOf (N : Nat) (σ : zS) (x1 : Int32) : Option (Int32) :=
  zb_M_pairOf_4 N N σ x1 x1 0
def zb_M_stateShown_113 (k80 : zS → Int32 → Int32 → Int32 → Int32 → Option (Int32)) (N : Nat) (σ : zS) (v1 : Int32) (v2 : Int32) (v3 : Int32) (v4 : Int32) : Option (Int32) :=
  k80 σ v1 v2 v3 (v4 + 1)
def zb_M_stateShown_80 (N : Nat) : Nat → zS → Int32 → Int32 → Int32 → Int32 → Option (Int32)
  | 0, _, _, _, _, _ => none
  | n + 1, σ, v1, v2, v3, v4 =>
    if (σ 82 54) ≤ v4 then
      some ((-1))
    else
      if v2 < 0 then
        some ((-1))
      else
        (zf_M_isOf N σ v4 v1).bind fun r6 =>
        if r6 = 0 then
          zb_M_stateShown_113 (zb_M_stateShown_80 N n) N σ v1 v2 v3 v4
        else
          if ¬ v3 = 0 then
            zb_M_stateShown_113 (zb_M_stateShown_80 N n) N σ v1 v2 (v3 + (-1)) v4
          else
            some (v4)
def zb_M_stateShown_75 (N : Nat) (σ : zS) (v1 : Int32) (v2 : Int32) : Option (Int32) :=
  zb_M_stateShown_80 N N σ v1 v2 v2 0
/-- RX12.stateShown [82] -/
def zf_M_stateShown (N : Nat) (σ : zS) (x1 : Int32) (x2 : Int32) : Option (Int32) :=
  if ¬ x1 = 0 then
    if ¬ x1 = 3 then
      if x1 = 1 then
        zb_M_stateShown_75 N σ x1 x2
      else
        if x1 = 2 then
          zb_M_stateShown_75 N σ x1 x2
        else
          if x1 = 4 then
            zb_M_stateShown_75 N σ x1 x2
          else
            some ((-1))
    else
      (zf_M_in σ x2 0 ((σ 82 60) - 1)).bind fun r11 =>
      if r11 = 0 then
        some ((-1))
      else
        if 0 ≤ x2 ∧ x2 < 4000 then
          some ((σ 115 x2.toNatClampNeg))
        else none
  else
    (zf_M_pairOf N σ x2).bind fun r14 =>
    if ¬ r14 = (-1) then
      if 0 ≤ r14 ∧ r14 < 9216 then
        some (((σ 114 r14.toNatClampNeg) - 1))
      else none
    else
      some ((-1))
def zb_M_show_74 (N : Nat) : Nat → zS → Int32 → Int32 → Int32 → Option (Int32 × zS)
  | 0, _, _, _, _ => none
  | n + 1, σ, v3, v4, v5 =>
    if v5 ≤ 0 then
      some (v3, σ)
    else
      if 0 ≤ v5 ∧ v5 < 4000 then
        if 0 ≤ (v4 + (-1)) ∧ (v4 + (-1)) < 4000 then
          if 0 ≤ v5 ∧ v5 < 4000 then
            zb_M_show_74 N n (zx_up σ 116 (v4 + (-1)).toNatClampNeg (σ 112 v5.toNatClampNeg)) v3 (v4 + (-1)) (σ 111 v5.toNatClampNeg)
          else none
        else none
      else none
def zb_M_show_38 (N : Nat) : Nat → zS → Int32 → Int32 → Option (Int32 × zS)
  | 0, _, _, _ => none
  | n + 1, σ, v3, v4 =>
    if v4 ≤ 0 then
      zb_M_show_74 N N σ v3 (σ 82 62) v3
    else
      if 0 ≤ v4 ∧ v4 < 4000 then
        zb_M_show_38 N n (zx_up σ 82 62 ((σ 82 62) + 1)) v3 (σ 111 v4.toNatClampNeg)
      else none
/-- RX12.show [82] -/
def zf_M_show (N : Nat) (σ : zS) (x1 : Int32) (x2 : Int32) : Option (Int32 × zS) :=
  if ¬ (σ 82 53) = 0 then
    (zf_M_stateShown N (zx_up σ 82 0 0) x1 x2).bind fun r2 =>
    if ¬ r2 = (-1) then
      zb_M_show_38 N N (zx_up (zx_up σ 82 0 0) 82 62 0) r2 r2
    else
      some ((-102), (zx_up σ 82 0 0))
  else
    some ((-101), (zx_up σ 82 0 0))
/-- RX11.length [2] -/
def zf_X_length (σ : zS) : Option (Int32) :=
  if ¬ (σ 2 16) = (-1) then
    some ((σ 2 16))
  else
    some ((-101))
/-- RX12.length [82] -/
def zf_M_length (σ : zS) : Option (Int32 × zS) :=
  if (σ 82 53) = 0 then
    some ((-101), (zx_up σ 82 0 0))
  else
    if (σ 82 62) = (-1) then
      some ((-101), (zx_up σ 82 0 0))
    else
      some ((σ 82 62), (zx_up σ 82 0 0))
def zb_X_who_30 (σ : zS) : Option (Int32) :=
  some ((-102))
/-- RX11.who [2] -/
def zf_X_who (σ : zS) (x1 : Int32) : Option (Int32) :=
  if ¬ (σ 2 16) = (-1) then
    if x1 < 0 then
      zb_X_who_30 σ
    else
      if (σ 2 16) ≤ x1 then
        zb_X_who_30 σ
      else
        if x1 < 4000 then
          if 0 ≤ x1 ∧ x1 < 4000 then
            some ((σ 81 x1.toNatClampNeg))
          else none
        else
          zb_X_who_30 σ
  else
    some ((-101))
/-- RX12.who [82] -/
def zf_M_who (σ : zS) (x1 : Int32) : Option (Int32 × zS) :=
  if (σ 82 53) = 0 then
    some ((-101), (zx_up σ 82 0 0))
  else
    if ¬ (σ 82 62) = (-1) then
      (zf_M_in (zx_up σ 82 0 0) x1 0 ((σ 82 62) - 1)).bind fun r3 =>
      if r3 = 0 then
        some ((-102), (zx_up σ 82 0 0))
      else
        if 0 ≤ x1 ∧ x1 < 4000 then
          some ((σ 116 x1.toNatClampNeg), (zx_up σ 82 0 0))
        else none
    else
      some ((-101), (zx_up σ 82 0 0))
def zb_Numbers_get_c6_21 (σ : zS) : Option (Int32) :=
  some ((-1))
/-- RX4.get [53] -/
def zf_Numbers_get_c6 (σ : zS) (x1 : Int32) : Option (Int32) :=
  if x1 < 0 then
    zb_Numbers_get_c6_21 σ
  else
    if (σ 53 1) ≤ x1 then
      zb_Numbers_get_c6_21 σ
    else
      if x1 < 3456 then
        if 0 ≤ x1 ∧ x1 < 3456 then
          some ((σ 54 x1.toNatClampNeg))
        else none
      else
        zb_Numbers_get_c6_21 σ
/-- RX6.partOfPair [4] -/
def zf_Program_partOfPair (σ : zS) (x1 : Int32) (x2 : Int32) : Option (Int32) :=
  if x1 < 0 then
    some ((-102))
  else
    if (x1 / 96) < 96 then
      if x2 = 0 then
        some (((x1 / 96) / 24))
      else
        if x2 = 1 then
          some ((zJ_rem (x1 / 96) 24))
        else
          if x2 = 2 then
            some (((zJ_rem x1 96) / 24))
          else
            if x2 = 3 then
              some ((zJ_rem (zJ_rem x1 96) 24))
            else
              if x2 = 4 then
                if 0 ≤ (x1 / 96) ∧ (x1 / 96) < 97 then
                  some ((σ 8 (x1 / 96).toNatClampNeg))
                else none
              else
                some ((-102))
    else
      some ((-102))
/-- RX11.race [2] -/
def zf_X_race (σ : zS) (x1 : Int32) (x2 : Int32) : Option (Int32) :=
  if ¬ (σ 2 15) = 0 then
    (zf_Numbers_get_c6 σ x1).bind fun r2 =>
    (zf_Program_partOfPair σ r2 x2).bind fun r3 =>
    some (r3)
  else
    some ((-101))
/-- RX12.ofPair [82] -/
def zf_M_ofPair (σ : zS) (x1 : Int32) (x2 : Int32) : Option (Int32) :=
  if x2 = 0 then
    some (((x1 / 96) / 24))
  else
    if x2 = 1 then
      some ((zJ_rem (x1 / 96) 24))
    else
      if x2 = 2 then
        some (((zJ_rem x1 96) / 24))
      else
        if x2 = 3 then
          some ((zJ_rem (zJ_rem x1 96) 24))
        else
          if x2 = 4 then
            if 0 ≤ (x1 / 96) ∧ (x1 / 96) < 96 then
              some ((σ 93 (x1 / 96).toNatClampNeg))
            else none
          else
            some ((-102))
/-- RX12.race [82] -/
def zf_M_race (N : Nat) (σ : zS) (x1 : Int32) (x2 : Int32) : Option (Int32 × zS) :=
  if ¬ (σ 82 53) = 0 then
    (zf_M_pairOf N (zx_up σ 82 0 0) x1).bind fun r2 =>
    if ¬ r2 = (-1) then
      (zf_M_ofPair (zx_up σ 82 0 0) r2 x2).bind fun r4 =>
      some (r4, (zx_up σ 82 0 0))
    else
      some ((-102), (zx_up σ 82 0 0))
  else
    some ((-101), (zx_up σ 82 0 0))
/-- RX6.hasThread [4] -/
def zf_Program_hasThread (σ : zS) (x1 : Int32) : Option (Int32) :=
  if x1 < 0 then
    some (0)
  else
    if (σ 4 2) ≤ x1 then
      some (0)
    else
      if 4 ≤ x1 then
        some (0)
      else
        some (1)
/-- RX11.thread [2] -/
def zf_X_thread (N : Nat) (σ : zS) (x1 : Int32) (x2 : Int32) (x3 : Int32) : Option (Int32 × zS) :=
  if ¬ (σ 2 15) = 0 then
    (zf_Program_hasThread σ x2).bind fun r2 =>
    if r2 = 0 then
      some ((-102), σ)
    else
      (zf_Space_has σ x1).bind fun r4 =>
      if ¬ r4 = 0 then
        (zf_Space_load N σ x1).bind fun r6 =>
        if x3 = 0 then
          (zf_Machine_howOf r6 x2).bind fun r19 =>
          some (r19, r6)
        else
          if x3 = 1 then
            (zf_Machine_stepOf r6 x2).bind fun r18 =>
            some (r18, r6)
          else
            if x3 = 2 then
              (zf_Machine_canMove r6 x2).bind fun r16 =>
              if r16 = 0 then
                some (0, r6)
              else
                some (1, r6)
            else
              if x3 = 3 then
                (zf_Machine_localOf r6 x2 (x3 - 3)).bind fun r15 =>
                some (r15, r6)
              else
                if x3 = 4 then
                  (zf_Machine_localOf r6 x2 (x3 - 3)).bind fun r14 =>
                  some (r14, r6)
                else
                  if x3 = 5 then
                    (zf_Machine_localOf r6 x2 (x3 - 3)).bind fun r13 =>
                    some (r13, r6)
                  else
                    some ((-102), r6)
      else
        some ((-102), σ)
  else
    some ((-101), σ)
/-- RX12.isState [82] -/
def zf_M_isState (σ : zS) (x1 : Int32) : Option (Int32) :=
  (zf_M_in σ x1 0 ((σ 82 54) - 1)).bind fun r1 =>
  if r1 = 0 ∨ r1 = 1 then
    some (r1)
  else none
/-- RX12.thread [82] -/
def zf_M_thread (N : Nat) (σ : zS) (x1 : Int32) (x2 : Int32) (x3 : Int32) : Option (Int32 × zS) :=
  if ¬ (σ 82 53) = 0 then
    (zf_M_isState (zx_up σ 82 0 0) x1).bind fun r2 =>
    if r2 = 0 then
      some ((-102), (zx_up σ 82 0 0))
    else
      (zf_M_in (zx_up σ 82 0 0) x2 0 ((σ 82 17) - 1)).bind fun r4 =>
      if r4 = 0 then
        some ((-102), (zx_up σ 82 0 0))
      else
        (zf_M_in (zx_up σ 82 0 0) x3 0 5).bind fun r6 =>
        if ¬ r6 = 0 then
          (zf_M_load N (zx_up σ 82 0 0) x1).bind fun r8 =>
          if ¬ x3 = 0 then
            if ¬ x3 = 1 then
              if ¬ x3 = 2 then
                (zf_M_at r8 x2).bind fun r12 =>
                if 0 ≤ ((r12 + x3) - 1) ∧ ((r12 + x3) - 1) < 40 then
                  some ((r8 107 ((r12 + x3) - 1).toNatClampNeg), r8)
                else none
              else
                (zf_M_canStep r8 x2).bind fun r14 =>
                if r14 = 0 then
                  some (0, r8)
                else
                  some (1, r8)
            else
              (zf_M_at r8 x2).bind fun r16 =>
              if 0 ≤ r16 ∧ r16 < 40 then
                some ((r8 107 r16.toNatClampNeg), r8)
              else none
          else
            (zf_M_stateOf r8 x2).bind fun r18 =>
            some (r18, r8)
        else
          some ((-102), (zx_up σ 82 0 0))
  else
    some ((-101), (zx_up σ 82 0 0))
/-- RX11.field [2] -/
def zf_X_field (N : Nat) (σ : zS) (x1 : Int32) (x2 : Int32) : Option (Int32 × zS) :=
  if ¬ (σ 2 15) = 0 then
    if x2 < 0 then
      some ((-102), σ)
    else
      if (σ 4 0) ≤ x2 then
        some ((-102), σ)
      else
        (zf_Space_has σ x1).bind fun r4 =>
        if ¬ r4 = 0 then
          (zf_Space_load N σ x1).bind fun r6 =>
          (zf_Machine_valueOfField r6 x2).bind fun r7 =>
          some (r7, r6)
        else
          some ((-102), σ)
  else
    some ((-101), σ)
/-- RX12.field [82] -/
def zf_M_field (σ : zS) (x1 : Int32) (x2 : Int32) : Option (Int32 × zS) :=
  if ¬ (σ 82 53) = 0 then
    (zf_M_isState (zx_up σ 82 0 0) x1).bind fun r2 =>
    if r2 = 0 then
      some ((-102), (zx_up σ 82 0 0))
    else
      (zf_M_in (zx_up σ 82 0 0) x2 0 ((σ 82 15) - 1)).bind fun r4 =>
      if r4 = 0 then
        some ((-102), (zx_up σ 82 0 0))
      else
        if 0 ≤ ((40 * x1) + x2) ∧ ((40 * x1) + x2) < 320000 then
          some ((σ 108 ((40 * x1) + x2).toNatClampNeg), (zx_up σ 82 0 0))
        else none
  else
    some ((-101), (zx_up σ 82 0 0))
/-- RX11.owner [2] -/
def zf_X_owner (N : Nat) (σ : zS) (x1 : Int32) (x2 : Int32) : Option (Int32 × zS) :=
  if ¬ (σ 2 15) = 0 then
    if x2 < 0 then
      some ((-102), σ)
    else
      if (σ 4 1) ≤ x2 then
        some ((-102), σ)
      else
        (zf_Space_has σ x1).bind fun r4 =>
        if ¬ r4 = 0 then
          (zf_Space_load N σ x1).bind fun r6 =>
          (zf_Machine_ownerOf r6 x2).bind fun r7 =>
          some (r7, r6)
        else
          some ((-102), σ)
  else
    some ((-101), σ)
/-- RX12.owner [82] -/
def zf_M_owner (σ : zS) (x1 : Int32) (x2 : Int32) : Option (Int32 × zS) :=
  if ¬ (σ 82 53) = 0 then
    (zf_M_isState (zx_up σ 82 0 0) x1).bind fun r2 =>
    if r2 = 0 then
      some ((-102), (zx_up σ 82 0 0))
    else
      (zf_M_in (zx_up σ 82 0 0) x2 0 ((σ 82 16) - 1)).bind fun r4 =>
      if r4 = 0 then
        some ((-102), (zx_up σ 82 0 0))
      else
        if 0 ≤ (((40 * x1) + 6) + x2) ∧ (((40 * x1) + 6) + x2) < 320000 then
          some (((σ 108 (((40 * x1) + 6) + x2).toNatClampNeg) - 1), (zx_up σ 82 0 0))
        else none
  else
    some ((-101), (zx_up σ 82 0 0))
/-- RX2.blockerOf [35] -/
def zf_Machine_blockerOf (σ : zS) (x1 : Int32) : Option (Int32) :=
  (zf_Machine_slotOf σ x1).bind fun r1 =>
  (zf_Machine_howOf σ x1).bind fun r2 =>
  if ¬ r2 = 1 then
    some ((-1))
  else
    if 0 ≤ r1 ∧ r1 < 97 then
      if (σ 7 r1.toNatClampNeg) = 3 then
        if 0 ≤ r1 ∧ r1 < 97 then
          (zf_Machine_ownerOf σ (σ 8 r1.toNatClampNeg)).bind fun r7 =>
          if ¬ r7 = x1 then
            some (r7)
          else
            some ((-1))
        else none
      else
        some ((-1))
    else none
def zb_Machine_hasRing_50 (k2 : zS → Int32 → Option (Int32)) (N : Nat) (σ : zS) (v1 : Int32) : Option (Int32) :=
  k2 σ (v1 + 1)
def zb_Machine_hasRing_21 (k2 : zS → Int32 → Option (Int32)) (N : Nat) : Nat → zS → Int32 → Int32 → Int32 → Option (Int32)
  | 0, _, _, _, _ => none
  | n + 1, σ, v1, v2, v3 =>
    if 4 ≤ v3 then
      zb_Machine_hasRing_50 k2 N σ v1
    else
      if v2 = (-1) then
        zb_Machine_hasRing_50 k2 N σ v1
      else
        if ¬ v2 = v1 then
          (zf_Machine_blockerOf σ v2).bind fun r6 =>
          zb_Machine_hasRing_21 k2 N n σ v1 r6 (v3 + 1)
        else
          some (1)
def zb_Machine_hasRing_2 (N : Nat) : Nat → zS → Int32 → Option (Int32)
  | 0, _, _ => none
  | n + 1, σ, v1 =>
    if (σ 4 2) ≤ v1 then
      some (0)
    else
      (zf_Machine_blockerOf σ v1).bind fun r2 =>
      zb_Machine_hasRing_21 (zb_Machine_hasRing_2 N n) N N σ v1 r2 0
/-- RX2.hasRing [35] -/
def zf_Machine_hasRing (N : Nat) (σ : zS) : Option (Int32) :=
  zb_Machine_hasRing_2 N N σ 0
def zb_Machine_onlyWaits_32 (k2 : zS → Int32 → Option (Int32)) (N : Nat) (σ : zS) (v1 : Int32) : Option (Int32) :=
  k2 σ (v1 + 1)
def zb_Machine_onlyWaits_2 (N : Nat) : Nat → zS → Int32 → Option (Int32)
  | 0, _, _ => none
  | n + 1, σ, v1 =>
    if (σ 4 2) ≤ v1 then
      some (1)
    else
      (zf_Machine_isGone σ v1).bind fun r2 =>
      if ¬ r2 = 0 then
        zb_Machine_onlyWaits_32 (zb_Machine_onlyWaits_2 N n) N σ v1
      else
        (zf_Machine_howOf σ v1).bind fun r4 =>
        if r4 = 2 then
          zb_Machine_onlyWaits_32 (zb_Machine_onlyWaits_2 N n) N σ v1
        else
          some (0)
/-- RX2.onlyWaits [35] -/
def zf_Machine_onlyWaits (N : Nat) (σ : zS) : Option (Int32) :=
  zb_Machine_onlyWaits_2 N N σ 0
/-- RX11.stuck [2] -/
def zf_X_stuck (N : Nat) (σ : zS) (x1 : Int32) : Option (Int32 × zS) :=
  if ¬ (σ 2 15) = 0 then
    (zf_Space_has σ x1).bind fun r2 =>
    if r2 = 0 then
      some ((-102), σ)
    else
      (zf_Space_isLast σ x1).bind fun r4 =>
      if ¬ r4 = 0 then
        (zf_Space_load N σ x1).bind fun r6 =>
        (zf_Machine_isOver N r6).bind fun r7 =>
        if r7 = 0 then
          (zf_Machine_hasRing N r6).bind fun r9 =>
          if r9 = 0 then
            (zf_Machine_onlyWaits N r6).bind fun r11 =>
            if r11 = 0 then
              some (3, r6)
            else
              some (2, r6)
          else
            some (1, r6)
        else
          some ((-102), r6)
      else
        some ((-102), σ)
  else
    some ((-101), σ)
/-- RX12.waitsFor [82] -/
def zf_M_waitsFor (σ : zS) (x1 : Int32) : Option (Int32) :=
  (zf_M_at σ x1).bind fun r1 =>
  if 0 ≤ r1 ∧ r1 < 40 then
    (zf_M_stateOf σ x1).bind fun r3 =>
    if ¬ r3 = 1 then
      some ((-1))
    else
      if 0 ≤ ((24 * x1) + (σ 107 r1.toNatClampNeg)) ∧ ((24 * x1) + (σ 107 r1.toNatClampNeg)) < 96 then
        if ¬ (σ 92 ((24 * x1) + (σ 107 r1.toNatClampNeg)).toNatClampNeg) = 3 then
          some ((-1))
        else
          if 0 ≤ ((24 * x1) + (σ 107 r1.toNatClampNeg)) ∧ ((24 * x1) + (σ 107 r1.toNatClampNeg)) < 96 then
            if 0 ≤ (6 + (σ 93 ((24 * x1) + (σ 107 r1.toNatClampNeg)).toNatClampNeg)) ∧ (6 + (σ 93 ((24 * x1) + (σ 107 r1.toNatClampNeg)).toNatClampNeg)) < 40 then
              some (((σ 107 (6 + (σ 93 ((24 * x1) + (σ 107 r1.toNatClampNeg)).toNatClampNeg)).toNatClampNeg) - 1))
            else none
          else none
      else none
  else none
def zb_M_stuck_135 (k45 : zS → Int32 → Int32 → Option (Int32 × zS)) (N : Nat) (σ : zS) (v3 : Int32) (s0 : Int32) : Option (Int32 × zS) :=
  k45 σ s0 (v3 + 1)
def zb_M_stuck_134 (k45 : zS → Int32 → Int32 → Option (Int32 × zS)) (N : Nat) (σ : zS) (v3 : Int32) : Option (Int32 × zS) :=
  zb_M_stuck_135 k45 N σ v3 0
def zb_M_stuck_130 (k45 : zS → Int32 → Int32 → Option (Int32 × zS)) (N : Nat) (σ : zS) (v3 : Int32) : Option (Int32 × zS) :=
  zb_M_stuck_135 k45 N σ v3 1
def zb_M_stuck_96 (k45 : zS → Int32 → Int32 → Option (Int32 × zS)) (N : Nat) (σ : zS) (v2 : Int32) (v3 : Int32) : Option (Int32 × zS) :=
  (zf_M_stateOf σ v3).bind fun r10 =>
  if v2 = 0 then
    zb_M_stuck_134 k45 N σ v3
  else
    if r10 = 4 then
      zb_M_stuck_130 k45 N σ v3
    else
      if r10 = 5 then
        zb_M_stuck_130 k45 N σ v3
      else
        if r10 = 0 then
          zb_M_stuck_130 k45 N σ v3
        else
          if ¬ r10 = 2 then
            zb_M_stuck_134 k45 N σ v3
          else
            zb_M_stuck_130 k45 N σ v3
def zb_M_stuck_59 (k45 : zS → Int32 → Int32 → Option (Int32 × zS)) (N : Nat) : Nat → zS → Int32 → Int32 → Int32 → Int32 → Option (Int32 × zS)
  | 0, _, _, _, _, _ => none
  | n + 1, σ, v2, v3, v4, v5 =>
    if (σ 82 17) ≤ v5 then
      zb_M_stuck_96 k45 N σ v2 v3
    else
      if v4 = (-1) then
        zb_M_stuck_96 k45 N σ v2 v3
      else
        (zf_M_waitsFor σ v4).bind fun r17 =>
        if ¬ r17 = v3 then
          zb_M_stuck_59 k45 N n σ v2 v3 r17 (v5 + 1)
        else
          some (1, σ)
def zb_M_stuck_45 (N : Nat) : Nat → zS → Int32 → Int32 → Option (Int32 × zS)
  | 0, _, _, _ => none
  | n + 1, σ, v2, v3 =>
    if (σ 82 17) ≤ v3 then
      if v2 = 0 then
        some (3, σ)
      else
        some (2, σ)
    else
      zb_M_stuck_59 (zb_M_stuck_45 N n) N N σ v2 v3 v3 0
/-- RX12.stuck [82] -/
def zf_M_stuck (N : Nat) (σ : zS) (x1 : Int32) : Option (Int32 × zS) :=
  if ¬ (σ 82 53) = 0 then
    (zf_M_isState (zx_up σ 82 0 0) x1).bind fun r2 =>
    if r2 = 0 then
      some ((-102), (zx_up σ 82 0 0))
    else
      if 0 ≤ x1 ∧ x1 < 4000 then
        if (σ 113 x1.toNatClampNeg) = 2 then
          (zf_M_load N (zx_up σ 82 0 0) x1).bind fun r6 =>
          zb_M_stuck_45 N N r6 1 0
        else
          some ((-102), (zx_up σ 82 0 0))
      else none
  else
    some ((-101), (zx_up σ 82 0 0))
def zb_Arrays_fill_c7_5 (N : Nat) : Nat → zS → Int32 → Int32 → Int32 → Option (zS)
  | 0, _, _, _, _ => none
  | n + 1, σ, v1, v2, v3 =>
    if v3 ≤ v2 then
      some (σ)
    else
      if 0 ≤ v2 ∧ v2 < 8192 then
        zb_Arrays_fill_c7_5 N n (zx_up σ 68 v2.toNatClampNeg v1) v1 (v2 + 1) v3
      else none
/-- RJ7.fill [68] -/
def zf_Arrays_fill_c7 (N : Nat) (σ : zS) (x2 : Int32) : Option (zS) :=
  zb_Arrays_fill_c7_5 N N σ x2 0 8192
/-- RX8.has [64] -/
def zf_Space_has_c1 (σ : zS) (x1 : Int32) : Option (Int32) :=
  if x1 < 0 then
    some (0)
  else
    if (σ 64 6) ≤ x1 then
      some (0)
    else
      if 4000 ≤ x1 then
        some (0)
      else
        some (1)
def zb_Space_isComing_c1_2 (N : Nat) : Nat → zS → Int32 → Int32 → Option (Int32)
  | 0, _, _, _ => none
  | n + 1, σ, v1, v2 =>
    if 5 ≤ v2 then
      some (1)
    else
      (zf_Space_has_c1 σ v1).bind fun r2 =>
      if r2 = 0 then
        some (1)
      else
        if 0 ≤ ((v1 * 5) + v2) ∧ ((v1 * 5) + v2) < 20000 then
          if 0 ≤ v2 ∧ v2 < 5 then
            if (σ 65 ((v1 * 5) + v2).toNatClampNeg) = (σ 40 v2.toNatClampNeg) then
              zb_Space_isComing_c1_2 N n σ v1 (v2 + 1)
            else
              some (0)
          else none
        else none
/-- RX8.isComing [64] -/
def zf_Space_isComing_c1 (N : Nat) (σ : zS) (x1 : Int32) : Option (Int32) :=
  zb_Space_isComing_c1_2 N N σ x1 0
def zb_Space_slotOfComing_c1_45 (N : Nat) : Nat → zS → Int32 → Int32 → Option (Int32)
  | 0, _, _, _ => none
  | n + 1, σ, v2, v3 =>
    if 8192 ≤ v3 then
      some (v2)
    else
      if 0 ≤ v2 ∧ v2 < 8192 then
        if (σ 68 v2.toNatClampNeg) = 0 then
          some (v2)
        else
          if 0 ≤ v2 ∧ v2 < 8192 then
            (zf_Space_isComing_c1 N σ ((σ 68 v2.toNatClampNeg) - 1)).bind fun r6 =>
            if r6 = 0 then
              zb_Space_slotOfComing_c1_45 N n σ ((v2 + 1) &&& 8191) (v3 + 1)
            else
              some (v2)
          else none
      else none
def zb_Space_slotOfComing_c1_4 (N : Nat) : Nat → zS → Int32 → Int32 → Option (Int32)
  | 0, _, _, _ => none
  | n + 1, σ, v1, v2 =>
    if 5 ≤ v2 then
      zb_Space_slotOfComing_c1_45 N N σ (v1 &&& 8191) 0
    else
      if 0 ≤ v2 ∧ v2 < 5 then
        zb_Space_slotOfComing_c1_4 N n σ (((v1 ^^^ (σ 40 v2.toNatClampNeg)) * (-1640531535)) ^^^ (zJ_ushr ((v1 ^^^ (σ 40 v2.toNatClampNeg)) * (-1640531535)) 15)) (v2 + 1)
      else none
/-- RX8.slotOfComing [64] -/
def zf_Space_slotOfComing_c1 (N : Nat) (σ : zS) : Option (Int32) :=
  zb_Space_slotOfComing_c1_4 N N σ 0 0
/-- RX8.note [64] -/
def zf_Space_note_c1 (N : Nat) (σ : zS) (x1 : Int32) : Option (Int32 × zS) :=
  (zf_Space_slotOfComing_c1 N σ).bind fun r1 =>
  if 0 ≤ r1 ∧ r1 < 8192 then
    if (σ 68 r1.toNatClampNeg) = 0 then
      if (σ 64 6) < 0 then
        some (0, σ)
      else
        if (σ 64 6) < 4000 then
          if 0 ≤ ((σ 64 6) * 5) ∧ ((σ 64 6) * 5) ≤ 19995 then
            if 0 ≤ ((zJ_copy σ 40 65 0 ((σ 64 6) * 5) 5) 64 6) ∧ ((zJ_copy σ 40 65 0 ((σ 64 6) * 5) 5) 64 6) < 4000 then
              if 0 ≤ r1 ∧ r1 < 8192 then
                some (1, (zx_up (zx_up (zx_up (zJ_copy σ 40 65 0 ((σ 64 6) * 5) 5) 66 ((zJ_copy σ 40 65 0 ((σ 64 6) * 5) 5) 64 6).toNatClampNeg x1) 64 6 (((zJ_copy σ 40 65 0 ((σ 64 6) * 5) 5) 64 6) + 1)) 68 r1.toNatClampNeg (((zJ_copy σ 40 65 0 ((σ 64 6) * 5) 5) 64 6) + 1)))
              else none
            else none
          else none
        else
          some (0, σ)
    else
      some (1, σ)
  else none
def zb_Machine_load_c1_130 (k34 : zS → Int32 → Option (zS)) (N : Nat) (σ : zS) (v3 : Int32) : Option (zS) :=
  k34 σ (v3 + 1)
def zb_Machine_load_c1_124 (k95 : zS → Int32 → Int32 → Int32 → Option (zS)) (N : Nat) (σ : zS) (v3 : Int32) (v5 : Int32) (v6 : Int32) : Option (zS) :=
  k95 σ v3 v5 (v6 + 1)
def zb_Machine_load_c1_95 (k34 : zS → Int32 → Option (zS)) (N : Nat) : Nat → zS → Int32 → Int32 → Int32 → Option (zS)
  | 0, _, _, _, _ => none
  | n + 1, σ, v3, v5, v6 =>
    if 4 ≤ v6 then
      zb_Machine_load_c1_130 k34 N σ v3
    else
      if v5 = 0 then
        zb_Machine_load_c1_130 k34 N σ v3
      else
        if ((zJ_ushr v5 v6) &&& 1) = 0 then
          zb_Machine_load_c1_124 (zb_Machine_load_c1_95 k34 N n) N σ v3 v5 v6
        else
          if 0 ≤ v6 ∧ v6 < 4 then
            zb_Machine_load_c1_124 (zb_Machine_load_c1_95 k34 N n) N (zx_up σ 38 v6.toNatClampNeg v3) v3 v5 v6
          else none
def zb_Machine_load_c1_34 (N : Nat) : Nat → zS → Int32 → Option (zS)
  | 0, _, _ => none
  | n + 1, σ, v3 =>
    if 4 ≤ v3 then
      some (σ)
    else
      if 0 ≤ (v3 + 1) ∧ (v3 + 1) < 5 then
        if 0 ≤ v3 ∧ v3 < 4 then
          (zf_Program_slotOf (zx_up σ 36 v3.toNatClampNeg ((zJ_ushr (σ 39 (v3 + 1).toNatClampNeg) 14) &&& 7)) v3 ((zJ_ushr (σ 39 (v3 + 1).toNatClampNeg) 9) &&& 31)).bind fun r8 =>
          if 0 ≤ v3 ∧ v3 < 4 then
            (zf_Machine_locksOf (zx_up (zx_up σ 36 v3.toNatClampNeg ((zJ_ushr (σ 39 (v3 + 1).toNatClampNeg) 14) &&& 7)) 37 v3.toNatClampNeg r8) v3).bind fun r10 =>
            zb_Machine_load_c1_95 (zb_Machine_load_c1_34 N n) N N (zx_up (zx_up σ 36 v3.toNatClampNeg ((zJ_ushr (σ 39 (v3 + 1).toNatClampNeg) 14) &&& 7)) 37 v3.toNatClampNeg r8) v3 r10 0
          else none
        else none
      else none
/-- RX2.load [35, 65] -/
def zf_Machine_load_c1 (N : Nat) (σ : zS) (x2 : Int32) : Option (zS) :=
  if x2 < 0 then
    some (σ)
  else
    if (x2 + 5) ≤ 20000 then
      if 0 ≤ x2 ∧ x2 ≤ 19995 then
        (zf_Arrays_fill_c4 N (zJ_copy σ 65 39 x2 0 5) (-1)).bind fun r4 =>
        zb_Machine_load_c1_34 N N r4 0
      else none
    else
      some (σ)
/-- RX8.load [64] -/
def zf_Space_load_c1 (N : Nat) (σ : zS) (x1 : Int32) : Option (zS) :=
  (zf_Space_has_c1 σ x1).bind fun r1 =>
  if r1 = 0 then
    some (σ)
  else
    (zf_Machine_load_c1 N σ (x1 * 5)).bind fun r3 =>
    some (r3)
def zb_Space_exploreFrom_c1_95 (k20 : zS → Int32 → Int32 → Int32 → Int32 → Int32 → Option (Int32 × zS)) (N : Nat) (σ : zS) (v1 : Int32) (v2 : Int32) (v3 : Int32) (v4 : Int32) (v5 : Int32) : Option (Int32 × zS) :=
  k20 σ v1 v2 v3 v4 (v5 + 1)
def zb_Space_exploreFrom_c1_48 (k20 : zS → Int32 → Int32 → Int32 → Int32 → Int32 → Option (Int32 × zS)) (N : Nat) (σ : zS) (v1 : Int32) (v2 : Int32) (v3 : Int32) (v4 : Int32) (v5 : Int32) (s0 : Int32) : Option (Int32 × zS) :=
  if s0 = 0 then
    zb_Space_exploreFrom_c1_95 k20 N σ v1 v2 v3 v4 v5
  else
    (zf_Machine_canMove σ v5).bind fun r9 =>
    if r9 = 0 then
      zb_Space_exploreFrom_c1_95 k20 N σ v1 v2 v3 v4 v5
    else
      (zf_Machine_move N σ v5 v2).bind fun r11 =>
      (zf_Space_note_c1 N r11 ((v1 * 4) + v5)).bind fun r12 =>
      if ¬ r12.1 = 0 then
        zb_Space_exploreFrom_c1_95 k20 N r12.2 v1 v2 v3 0 v5
      else
        some (0, r12.2)
def zb_Space_exploreFrom_c1_43 (k20 : zS → Int32 → Int32 → Int32 → Int32 → Int32 → Option (Int32 × zS)) (N : Nat) (σ : zS) (v1 : Int32) (v2 : Int32) (v3 : Int32) (v4 : Int32) (v5 : Int32) : Option (Int32 × zS) :=
  zb_Space_exploreFrom_c1_48 k20 N σ v1 v2 v3 v4 v5 1
def zb_Space_exploreFrom_c1_20 (N : Nat) : Nat → zS → Int32 → Int32 → Int32 → Int32 → Int32 → Option (Int32 × zS)
  | 0, _, _, _, _, _, _ => none
  | n + 1, σ, v1, v2, v3, v4, v5 =>
    if (σ 4 2) ≤ v5 then
      (zf_Space_has_c1 σ v1).bind fun r4 =>
      if r4 = 0 then
        some (1, σ)
      else
        if 0 ≤ v1 ∧ v1 < 4000 then
          some (1, (zx_up σ 67 v1.toNatClampNeg (v4 &&& 1)))
        else none
    else
      if v3 = (-1) then
        zb_Space_exploreFrom_c1_43 (zb_Space_exploreFrom_c1_20 N n) N σ v1 v2 v3 v4 v5
      else
        if ¬ v3 = v5 then
          zb_Space_exploreFrom_c1_48 (zb_Space_exploreFrom_c1_20 N n) N σ v1 v2 v3 v4 v5 0
        else
          zb_Space_exploreFrom_c1_43 (zb_Space_exploreFrom_c1_20 N n) N σ v1 v2 v3 v4 v5
/-- RX8.exploreFrom [64] -/
def zf_Space_exploreFrom_c1 (N : Nat) (σ : zS) (x1 : Int32) (x2 : Int32) : Option (Int32 × zS) :=
  (zf_Space_load_c1 N σ x1).bind fun r1 =>
  (zf_Machine_aloneIn N r1 x2).bind fun r2 =>
  zb_Space_exploreFrom_c1_20 N N r1 x1 x2 r2 1 0
def zb_Space_explore_c1_28 (N : Nat) : Nat → zS → Int32 → Int32 → Int32 → Option (Int32 × zS)
  | 0, _, _, _, _ => none
  | n + 1, σ, v1, v2, v3 =>
    if (σ 64 6) ≤ v3 then
      if v2 = 0 ∨ v2 = 1 then
        some (v2, σ)
      else none
    else
      if 4000 ≤ v3 then
        if v2 = 0 ∨ v2 = 1 then
          some (v2, σ)
        else none
      else
        if v2 = 0 then
          if v2 = 0 ∨ v2 = 1 then
            some (v2, σ)
          else none
        else
          (zf_Space_exploreFrom_c1 N σ v3 v1).bind fun r10 =>
          zb_Space_explore_c1_28 N n r10.2 v1 r10.1 (v3 + 1)
/-- RX8.explore [64] -/
def zf_Space_explore_c1 (N : Nat) (σ : zS) (x1 : Int32) : Option (Int32 × zS) :=
  (zf_Arrays_fill_c7 N (zx_up σ 64 6 0) 0).bind fun r1 =>
  (zf_Machine_setFirst N r1).bind fun r2 =>
  (zf_Space_note_c1 N r2 0).bind fun r3 =>
  zb_Space_explore_c1_28 N N r3.2 x1 r3.1 0
/-- RX4.clear [70] -/
def zf_Numbers_clear_c7 (σ : zS) : Option (zS) :=
  some ((zx_up σ 70 1 0))
/-- RX4.clear [72] -/
def zf_Numbers_clear_c8 (σ : zS) : Option (zS) :=
  some ((zx_up σ 72 1 0))
def zb_Arrays_fill_c8_5 (N : Nat) : Nat → zS → Int32 → Int32 → Int32 → Option (zS)
  | 0, _, _, _, _ => none
  | n + 1, σ, v1, v2, v3 =>
    if v3 ≤ v2 then
      some (σ)
    else
      if 0 ≤ v2 ∧ v2 < 8192 then
        zb_Arrays_fill_c8_5 N n (zx_up σ 74 v2.toNatClampNeg v1) v1 (v2 + 1) v3
      else none
/-- RJ7.fill [74] -/
def zf_Arrays_fill_c8 (N : Nat) (σ : zS) (x2 : Int32) : Option (zS) :=
  zb_Arrays_fill_c8_5 N N σ x2 0 8192
/-- RX8.isLast [64] -/
def zf_Space_isLast_c1 (σ : zS) (x1 : Int32) : Option (Int32) :=
  (zf_Space_has_c1 σ x1).bind fun r1 =>
  if r1 = 0 then
    some (0)
  else
    if 0 ≤ x1 ∧ x1 < 4000 then
      if (σ 67 x1.toNatClampNeg) = 0 then
        some (0)
      else
        some (1)
    else none
def zb_Numbers_get_c7_21 (σ : zS) : Option (Int32) :=
  some ((-1))
/-- RX4.get [70] -/
def zf_Numbers_get_c7 (σ : zS) (x1 : Int32) : Option (Int32) :=
  if x1 < 0 then
    zb_Numbers_get_c7_21 σ
  else
    if (σ 70 1) ≤ x1 then
      zb_Numbers_get_c7_21 σ
    else
      if x1 < 4000 then
        if 0 ≤ x1 ∧ x1 < 4000 then
          some ((σ 71 x1.toNatClampNeg))
        else none
      else
        zb_Numbers_get_c7_21 σ
def zb_Outcomes_slotOf_c1_19 (N : Nat) : Nat → zS → Int32 → Int32 → Int32 → Option (Int32)
  | 0, _, _, _, _ => none
  | n + 1, σ, v1, v3, v4 =>
    if 8192 ≤ v4 then
      some (v3)
    else
      if 0 ≤ v3 ∧ v3 < 8192 then
        if (σ 74 v3.toNatClampNeg) = 0 then
          some (v3)
        else
          if 0 ≤ v3 ∧ v3 < 8192 then
            (zf_Numbers_get_c7 σ ((σ 74 v3.toNatClampNeg) - 1)).bind fun r5 =>
            if ¬ r5 = v1 then
              zb_Outcomes_slotOf_c1_19 N n σ v1 ((v3 + 1) &&& 8191) (v4 + 1)
            else
              some (v3)
          else none
      else none
/-- RX5.slotOf [69] -/
def zf_Outcomes_slotOf_c1 (N : Nat) (σ : zS) (x1 : Int32) : Option (Int32) :=
  zb_Outcomes_slotOf_c1_19 N N σ x1 (((x1 * (-1640531535)) ^^^ (zJ_ushr (x1 * (-1640531535)) 15)) &&& 8191) 0
/-- RX4.add [70] -/
def zf_Numbers_add_c7 (σ : zS) (x1 : Int32) : Option (zS) :=
  if (σ 70 1) < 0 then
    some (σ)
  else
    if 4000 ≤ (σ 70 1) then
      some (σ)
    else
      if 0 ≤ (σ 70 1) ∧ (σ 70 1) < 4000 then
        some ((zx_up (zx_up σ 71 (σ 70 1).toNatClampNeg x1) 70 1 ((σ 70 1) + 1)))
      else none
/-- RX4.add [72] -/
def zf_Numbers_add_c8 (σ : zS) (x1 : Int32) : Option (zS) :=
  if (σ 72 1) < 0 then
    some (σ)
  else
    if 4000 ≤ (σ 72 1) then
      some (σ)
    else
      if 0 ≤ (σ 72 1) ∧ (σ 72 1) < 4000 then
        some ((zx_up (zx_up σ 73 (σ 72 1).toNatClampNeg x1) 72 1 ((σ 72 1) + 1)))
      else none
/-- RX5.note [69] -/
def zf_Outcomes_note_c1 (N : Nat) (σ : zS) (x1 : Int32) (x2 : Int32) : Option (zS) :=
  (zf_Outcomes_slotOf_c1 N σ x1).bind fun r1 =>
  if 0 ≤ r1 ∧ r1 < 8192 then
    if ¬ (σ 74 r1.toNatClampNeg) = 0 then
      some (σ)
    else
      (zf_Numbers_add_c7 σ x1).bind fun r4 =>
      (zf_Numbers_add_c8 r4 x2).bind fun r5 =>
      if 0 ≤ r1 ∧ r1 < 8192 then
        some ((zx_up r5 74 r1.toNatClampNeg (r5 70 1)))
      else none
  else none
def zb_Outcomes_gather_c1_57 (k24 : zS → Int32 → Option (zS)) (N : Nat) (σ : zS) (v2 : Int32) : Option (zS) :=
  k24 σ (v2 + 1)
def zb_Outcomes_gather_c1_24 (N : Nat) : Nat → zS → Int32 → Option (zS)
  | 0, _, _ => none
  | n + 1, σ, v2 =>
    if (σ 64 6) ≤ v2 then
      some (σ)
    else
      (zf_Space_isLast_c1 σ v2).bind fun r5 =>
      if r5 = 0 then
        zb_Outcomes_gather_c1_57 (zb_Outcomes_gather_c1_24 N n) N σ v2
      else
        (zf_Space_load_c1 N σ v2).bind fun r7 =>
        (zf_Machine_outcome N r7).bind fun r8 =>
        (zf_Outcomes_note_c1 N r7 r8 v2).bind fun r9 =>
        zb_Outcomes_gather_c1_57 (zb_Outcomes_gather_c1_24 N n) N r9 v2
/-- RX5.gather [69, 64] -/
def zf_Outcomes_gather_c1 (N : Nat) (σ : zS) : Option (zS) :=
  (zf_Numbers_clear_c7 σ).bind fun r1 =>
  (zf_Numbers_clear_c8 r1).bind fun r2 =>
  (zf_Arrays_fill_c8 N r2 0).bind fun r3 =>
  zb_Outcomes_gather_c1_24 N N r3 0
def zb_Outcomes_isSameAs_21 (N : Nat) : Nat → zS → Int32 → Option (Int32)
  | 0, _, _ => none
  | n + 1, σ, v2 =>
    if (σ 59 1) ≤ v2 then
      some (1)
    else
      (zf_Numbers_get σ v2).bind fun r3 =>
      (zf_Outcomes_slotOf_c1 N σ r3).bind fun r4 =>
      if 0 ≤ r4 ∧ r4 < 8192 then
        if ¬ (σ 74 r4.toNatClampNeg) = 0 then
          zb_Outcomes_isSameAs_21 N n σ (v2 + 1)
        else
          some (0)
      else none
/-- RX5.isSameAs [69, 58] -/
def zf_Outcomes_isSameAs (N : Nat) (σ : zS) : Option (Int32) :=
  if (σ 70 1) = (σ 59 1) then
    zb_Outcomes_isSameAs_21 N N σ 0
  else
    some (0)
def zb_X_whole_102 (N : Nat) (σ : zS) (v1 : Int32) : Option (Int32 × zS) :=
  if 0 ≤ v1 ∧ v1 < 6 then
    some ((σ 75 v1.toNatClampNeg), σ)
  else none
def zb_X_whole_101 (N : Nat) (σ : zS) (v1 : Int32) (s0 : Int32) (s1 : Int32) : Option (Int32 × zS) :=
  if 0 ≤ s1 ∧ s1 < 6 then
    zb_X_whole_102 N (zx_up σ 75 s1.toNatClampNeg s0) v1
  else none
/-- RX11.whole [2] -/
def zf_X_whole (N : Nat) (σ : zS) (x1 : Int32) : Option (Int32 × zS) :=
  if ¬ (σ 2 15) = 0 then
    if x1 < 0 then
      some ((-102), σ)
    else
      if (σ 4 3) ≤ x1 then
        some ((-102), σ)
      else
        if x1 < 6 then
          if 0 ≤ x1 ∧ x1 < 6 then
            if ¬ (σ 75 x1.toNatClampNeg) = (-1) then
              zb_X_whole_102 N σ x1
            else
              if 0 ≤ x1 ∧ x1 < 6 then
                (zf_Space_explore_c1 N (zx_up σ 75 x1.toNatClampNeg (-103)) x1).bind fun r9 =>
                if r9.1 = 0 then
                  zb_X_whole_102 N r9.2 x1
                else
                  (zf_Outcomes_gather_c1 N r9.2).bind fun r11 =>
                  (zf_Outcomes_isSameAs N r11).bind fun r12 =>
                  if r12 = 0 then
                    zb_X_whole_101 N r11 x1 0 x1
                  else
                    zb_X_whole_101 N r11 x1 1 x1
              else none
          else none
        else
          some ((-102), σ)
  else
    some ((-101), σ)
def zb_M_whole_472 (N : Nat) (σ : zS) (v5 : Int32) : Option (Int32 × zS) :=
  if v5 = 0 then
    some (0, σ)
  else
    some (1, σ)
def zb_M_whole_454 (k414 : zS → Int32 → Int32 → Int32 → Int32 → Option (Int32 × zS)) (N : Nat) (σ : zS) (v4 : Int32) (v6 : Int32) (v8 : Int32) (s0 : Int32) : Option (Int32 × zS) :=
  k414 σ v4 v6 s0 (v8 + 1)
def zb_M_whole_449 (k414 : zS → Int32 → Int32 → Int32 → Int32 → Option (Int32 × zS)) (N : Nat) (σ : zS) (v4 : Int32) (v6 : Int32) (v8 : Int32) : Option (Int32 × zS) :=
  zb_M_whole_454 k414 N σ v4 v6 v8 1
def zb_M_whole_414 (k396 : zS → Int32 → Int32 → Int32 → Option (Int32 × zS)) (N : Nat) : Nat → zS → Int32 → Int32 → Int32 → Int32 → Option (Int32 × zS)
  | 0, _, _, _, _, _ => none
  | n + 1, σ, v4, v6, v7, v8 =>
    if (σ 82 60) ≤ v8 then
      k396 σ v4 v7 (v6 + 1)
    else
      if ¬ v7 = 0 then
        zb_M_whole_449 (zb_M_whole_414 k396 N n) N σ v4 v6 v8
      else
        if 0 ≤ v6 ∧ v6 < 4000 then
          if 0 ≤ v8 ∧ v8 < 4000 then
            (zf_M_isOutcome N σ (σ 117 v6.toNatClampNeg) (σ 115 v8.toNatClampNeg)).bind fun r17 =>
            if r17 = 0 then
              zb_M_whole_454 (zb_M_whole_414 k396 N n) N σ v4 v6 v8 0
            else
              zb_M_whole_449 (zb_M_whole_414 k396 N n) N σ v4 v6 v8
          else none
        else none
def zb_M_whole_396 (N : Nat) : Nat → zS → Int32 → Int32 → Int32 → Option (Int32 × zS)
  | 0, _, _, _, _ => none
  | n + 1, σ, v4, v5, v6 =>
    if v4 ≤ v6 then
      zb_M_whole_472 N σ v5
    else
      if v5 = 0 then
        zb_M_whole_472 N σ v5
      else
        zb_M_whole_414 (zb_M_whole_396 N n) N N σ v4 v6 0 0
def zb_M_whole_391 (N : Nat) (σ : zS) (v4 : Int32) (s0 : Int32) : Option (Int32 × zS) :=
  zb_M_whole_396 N N σ v4 s0 0
def zb_M_whole_371 (k63 : zS → Int32 → Int32 → Int32 → Int32 → Option (Int32 × zS)) (N : Nat) (σ : zS) (v1 : Int32) (v2 : Int32) (v4 : Int32) (v5 : Int32) : Option (Int32 × zS) :=
  k63 σ v1 v2 v4 (v5 + 1)
def zb_M_whole_354 (k63 : zS → Int32 → Int32 → Int32 → Int32 → Option (Int32 × zS)) (N : Nat) (σ : zS) (v1 : Int32) (v2 : Int32) (v4 : Int32) (v5 : Int32) (v8 : Int32) : Option (Int32 × zS) :=
  if v8 = 0 then
    zb_M_whole_371 k63 N σ v1 v2 v4 v5
  else
    if 0 ≤ v4 ∧ v4 < 4000 then
      zb_M_whole_371 k63 N (zx_up σ 117 v4.toNatClampNeg v5) v1 v2 (v4 + 1) v5
    else none
def zb_M_whole_346 (k313 : zS → Int32 → Int32 → Int32 → Int32 → Int32 → Int32 → Option (Int32 × zS)) (N : Nat) (σ : zS) (v1 : Int32) (v2 : Int32) (v4 : Int32) (v5 : Int32) (v9 : Int32) (s0 : Int32) : Option (Int32 × zS) :=
  k313 σ v1 v2 v4 v5 s0 (v9 + 1)
def zb_M_whole_313 (k63 : zS → Int32 → Int32 → Int32 → Int32 → Option (Int32 × zS)) (N : Nat) : Nat → zS → Int32 → Int32 → Int32 → Int32 → Int32 → Int32 → Option (Int32 × zS)
  | 0, _, _, _, _, _, _, _ => none
  | n + 1, σ, v1, v2, v4, v5, v8, v9 =>
    if v4 ≤ v9 then
      zb_M_whole_354 k63 N σ v1 v2 v4 v5 v8
    else
      if v8 = 0 then
        zb_M_whole_354 k63 N σ v1 v2 v4 v5 v8
      else
        if 0 ≤ v9 ∧ v9 < 4000 then
          (zf_M_isOutcome N σ (σ 117 v9.toNatClampNeg) v5).bind fun r28 =>
          if ¬ r28 = 0 then
            zb_M_whole_346 (zb_M_whole_313 k63 N n) N σ v1 v2 v4 v5 v9 0
          else
            zb_M_whole_346 (zb_M_whole_313 k63 N n) N σ v1 v2 v4 v5 v9 1
        else none
def zb_M_whole_296 (k147 : zS → Int32 → Int32 → Int32 → Int32 → Int32 → Int32 → Int32 → Option (Int32 × zS)) (N : Nat) (σ : zS) (v1 : Int32) (v2 : Int32) (v4 : Int32) (v5 : Int32) (v6 : Int32) (v7 : Int32) (v8 : Int32) : Option (Int32 × zS) :=
  k147 σ v1 v2 v4 v5 v6 v7 (v8 + 1)
def zb_M_whole_284 (k147 : zS → Int32 → Int32 → Int32 → Int32 → Int32 → Int32 → Int32 → Option (Int32 × zS)) (N : Nat) (σ : zS) (v1 : Int32) (v2 : Int32) (v4 : Int32) (v5 : Int32) (v6 : Int32) (v7 : Int32) (v8 : Int32) (s0 : Int32) (s1 : Int32) : Option (Int32 × zS) :=
  if 0 ≤ s1 ∧ s1 < 40 then
    (zf_M_put N (zx_up σ 107 s1.toNatClampNeg s0)).bind fun r42 =>
    if ¬ r42.1 = (-1) then
      zb_M_whole_296 k147 N r42.2 v1 v2 v4 v5 v6 v7 v8
    else
      some ((-103), r42.2)
  else none
def zb_M_whole_273 (k147 : zS → Int32 → Int32 → Int32 → Int32 → Int32 → Int32 → Int32 → Option (Int32 × zS)) (N : Nat) (σ : zS) (v1 : Int32) (v2 : Int32) (v4 : Int32) (v5 : Int32) (v6 : Int32) (v7 : Int32) (v8 : Int32) (s0 : Int32) : Option (Int32 × zS) :=
  zb_M_whole_284 k147 N σ v1 v2 v4 v5 v6 v7 v8 0 s0
def zb_M_whole_248 (k147 : zS → Int32 → Int32 → Int32 → Int32 → Int32 → Int32 → Int32 → Option (Int32 × zS)) (N : Nat) (σ : zS) (v1 : Int32) (v2 : Int32) (v4 : Int32) (v5 : Int32) (v6 : Int32) (v7 : Int32) (v8 : Int32) (s0 : Int32) (s1 : Int32) : Option (Int32 × zS) :=
  if 0 ≤ s1 ∧ s1 < 40 then
    (zf_M_stateOf (zx_up σ 107 s1.toNatClampNeg s0) v2).bind fun r39 =>
    if r39 = 4 then
      zb_M_whole_273 k147 N (zx_up σ 107 s1.toNatClampNeg s0) v1 v2 v4 v5 v6 v7 v8 38
    else
      (zf_M_stateOf (zx_up σ 107 s1.toNatClampNeg s0) v2).bind fun r44 =>
      if ¬ r44 = 5 then
        zb_M_whole_284 k147 N (zx_up σ 107 s1.toNatClampNeg s0) v1 v2 v4 v5 v6 v7 v8 ((zx_up σ 107 s1.toNatClampNeg s0) 107 38) 38
      else
        zb_M_whole_273 k147 N (zx_up σ 107 s1.toNatClampNeg s0) v1 v2 v4 v5 v6 v7 v8 38
  else none
def zb_M_whole_182 (k147 : zS → Int32 → Int32 → Int32 → Int32 → Int32 → Int32 → Int32 → Option (Int32 × zS)) (N : Nat) (σ : zS) (v1 : Int32) (v2 : Int32) (v4 : Int32) (v5 : Int32) (v6 : Int32) (v8 : Int32) : Option (Int32 × zS) :=
  (zf_M_at σ v8).bind fun r34 =>
  if 0 ≤ r34 ∧ r34 < 40 then
    (zf_M_doStep N σ v8).bind fun r36 =>
    if ¬ v8 = v2 then
      zb_M_whole_248 k147 N r36 v1 v2 v4 v5 v6 0 v8 (r36 107 38) 38
    else
      if 0 ≤ ((24 * v8) + (σ 107 r34.toNatClampNeg)) ∧ ((24 * v8) + (σ 107 r34.toNatClampNeg)) < 96 then
        if ¬ (r36 97 ((24 * v8) + (σ 107 r34.toNatClampNeg)).toNatClampNeg) = v1 then
          zb_M_whole_248 k147 N r36 v1 v2 v4 v5 v6 0 v8 0 38
        else
          zb_M_whole_248 k147 N r36 v1 v2 v4 v5 v6 0 v8 1 38
      else none
  else none
def zb_M_whole_147 (k63 : zS → Int32 → Int32 → Int32 → Int32 → Option (Int32 × zS)) (N : Nat) : Nat → zS → Int32 → Int32 → Int32 → Int32 → Int32 → Int32 → Int32 → Option (Int32 × zS)
  | 0, _, _, _, _, _, _, _, _ => none
  | n + 1, σ, v1, v2, v4, v5, v6, v7, v8 =>
    if (σ 82 17) ≤ v8 then
      if v7 = 0 then
        zb_M_whole_371 k63 N σ v1 v2 v4 v5
      else
        zb_M_whole_313 k63 N N σ v1 v2 v4 v5 1 0
    else
      (zf_M_load N σ v5).bind fun r30 =>
      (zf_M_canStep r30 v8).bind fun r31 =>
      if r31 = 0 then
        zb_M_whole_296 (zb_M_whole_147 k63 N n) N r30 v1 v2 v4 v5 v6 v7 v8
      else
        if v6 = 0 then
          zb_M_whole_182 (zb_M_whole_147 k63 N n) N r30 v1 v2 v4 v5 v6 v8
        else
          if ¬ v8 = v2 then
            zb_M_whole_296 (zb_M_whole_147 k63 N n) N r30 v1 v2 v4 v5 v6 v7 v8
          else
            zb_M_whole_182 (zb_M_whole_147 k63 N n) N r30 v1 v2 v4 v5 v6 v8
def zb_M_whole_139 (k63 : zS → Int32 → Int32 → Int32 → Int32 → Option (Int32 × zS)) (N : Nat) (σ : zS) (v1 : Int32) (v2 : Int32) (v4 : Int32) (v5 : Int32) (s0 : Int32) : Option (Int32 × zS) :=
  zb_M_whole_147 k63 N N σ v1 v2 v4 v5 s0 1 0
def zb_M_whole_138 (k63 : zS → Int32 → Int32 → Int32 → Int32 → Option (Int32 × zS)) (N : Nat) (σ : zS) (v1 : Int32) (v2 : Int32) (v4 : Int32) (v5 : Int32) : Option (Int32 × zS) :=
  zb_M_whole_139 k63 N σ v1 v2 v4 v5 0
def zb_M_whole_63 (N : Nat) : Nat → zS → Int32 → Int32 → Int32 → Int32 → Option (Int32 × zS)
  | 0, _, _, _, _, _ => none
  | n + 1, σ, v1, v2, v4, v5 =>
    if (4000 + (σ 82 52)) ≤ v5 then
      if ¬ v4 = (σ 82 60) then
        zb_M_whole_391 N σ v4 0
      else
        zb_M_whole_391 N σ v4 1
    else
      (zf_M_load N σ v5).bind fun r19 =>
      if ¬ (r19 107 38) = 1 then
        zb_M_whole_138 (zb_M_whole_63 N n) N r19 v1 v2 v4 v5
      else
        (zf_M_stateOf r19 v2).bind fun r49 =>
        if ¬ r49 = 1 then
          zb_M_whole_138 (zb_M_whole_63 N n) N r19 v1 v2 v4 v5
        else
          (zf_M_at r19 v2).bind fun r51 =>
          if 0 ≤ r51 ∧ r51 < 40 then
            if 0 ≤ ((24 * v2) + (r19 107 r51.toNatClampNeg)) ∧ ((24 * v2) + (r19 107 r51.toNatClampNeg)) < 96 then
              if ¬ (r19 97 ((24 * v2) + (r19 107 r51.toNatClampNeg)).toNatClampNeg) = v1 then
                zb_M_whole_138 (zb_M_whole_63 N n) N r19 v1 v2 v4 v5
              else
                (zf_M_canStep r19 v2).bind fun r55 =>
                if r55 = 0 then
                  zb_M_whole_138 (zb_M_whole_63 N n) N r19 v1 v2 v4 v5
                else
                  zb_M_whole_139 (zb_M_whole_63 N n) N r19 v1 v2 v4 v5 1
            else none
          else none
/-- RX12.whole [82] -/
def zf_M_whole (N : Nat) (σ : zS) (x1 : Int32) : Option (Int32 × zS) :=
  if ¬ (σ 82 53) = 0 then
    (zf_M_in (zx_up σ 82 0 0) x1 0 ((σ 82 25) - 1)).bind fun r2 =>
    if ¬ r2 = 0 then
      if 0 ≤ x1 ∧ x1 < 6 then
        (zf_M_forget N (zx_up σ 82 0 0) 4000).bind fun r5 =>
        (zf_M_firstState N r5).bind fun r6 =>
        (zf_M_put N r6).bind fun r7 =>
        zb_M_whole_63 N N r7.2 x1 (σ 91 x1.toNatClampNeg) 0 4000
      else none
    else
      some ((-102), (zx_up σ 82 0 0))
  else
    some ((-101), (zx_up σ 82 0 0))
/-- RX4.clear [79] -/
def zf_Numbers_clear_c9 (σ : zS) : Option (zS) :=
  some ((zx_up σ 79 1 0))
/-- RX1.canMeet [76] -/
def zf_Judge_canMeet (σ : zS) (x1 : Int32) (x2 : Int32) (x3 : Int32) (x4 : Int32) : Option (Int32) :=
  if x1 < 0 then
    some (0)
  else
    if 4 ≤ x1 then
      some (0)
    else
      if x3 < 0 then
        some (0)
      else
        if x3 < 4 then
          if 0 ≤ ((x1 * 4) + x3) ∧ ((x1 * 4) + x3) < 16 then
            if 0 ≤ ((x3 * 4) + x1) ∧ ((x3 * 4) + x1) < 16 then
              if (((zJ_ushr (σ 77 ((x1 * 4) + x3).toNatClampNeg) x2) &&& (zJ_ushr (σ 77 ((x3 * 4) + x1).toNatClampNeg) x4)) &&& 1) = 0 then
                some (0)
              else
                some (1)
            else none
          else none
        else
          some (0)
/-- RX1.isDoubtful [76] -/
def zf_Judge_isDoubtful (σ : zS) (x1 : Int32) (x2 : Int32) (x3 : Int32) (x4 : Int32) : Option (Int32) :=
  (zf_Program_slotOf σ x1 x2).bind fun r1 =>
  (zf_Program_slotOf σ x3 x4).bind fun r2 =>
  (zf_Program_clash σ r1 r2).bind fun r3 =>
  if r3 = 0 then
    some (0)
  else
    if 0 ≤ r1 ∧ r1 < 97 then
      if 0 ≤ r2 ∧ r2 < 97 then
        if ¬ ((σ 11 r1.toNatClampNeg) &&& (σ 11 r2.toNatClampNeg)) = 0 then
          some (0)
        else
          (zf_Judge_canMeet σ x1 x2 x3 x4).bind fun r8 =>
          if r8 = 0 then
            some (0)
          else
            some (1)
      else none
    else none
/-- RX4.add [79] -/
def zf_Numbers_add_c9 (σ : zS) (x1 : Int32) : Option (zS) :=
  if (σ 79 1) < 0 then
    some (σ)
  else
    if 3456 ≤ (σ 79 1) then
      some (σ)
    else
      if 0 ≤ (σ 79 1) ∧ (σ 79 1) < 3456 then
        some ((zx_up (zx_up σ 80 (σ 79 1).toNatClampNeg x1) 79 1 ((σ 79 1) + 1)))
      else none
def zb_Judge_listDoubts_66 (k27 : zS → Int32 → Int32 → Int32 → Option (zS)) (N : Nat) (σ : zS) (v1 : Int32) (v2 : Int32) (v3 : Int32) : Option (zS) :=
  k27 σ v1 v2 (v3 + 1)
def zb_Judge_listDoubts_27 (k9 : zS → Int32 → Option (zS)) (N : Nat) : Nat → zS → Int32 → Int32 → Int32 → Option (zS)
  | 0, _, _, _, _ => none
  | n + 1, σ, v1, v2, v3 =>
    if 96 ≤ v3 then
      k9 σ (v1 + 1)
    else
      (zf_Judge_isDoubtful σ v2 (zJ_rem v1 24) (v3 / 24) (zJ_rem v3 24)).bind fun r4 =>
      if r4 = 0 then
        zb_Judge_listDoubts_66 (zb_Judge_listDoubts_27 k9 N n) N σ v1 v2 v3
      else
        (zf_Numbers_add_c9 σ ((v1 * 96) + v3)).bind fun r6 =>
        zb_Judge_listDoubts_66 (zb_Judge_listDoubts_27 k9 N n) N r6 v1 v2 v3
def zb_Judge_listDoubts_9 (N : Nat) : Nat → zS → Int32 → Option (zS)
  | 0, _, _ => none
  | n + 1, σ, v1 =>
    if 96 ≤ v1 then
      some (σ)
    else
      zb_Judge_listDoubts_27 (zb_Judge_listDoubts_9 N n) N N σ v1 (v1 / 24) (((v1 / 24) + 1) * 24)
/-- RX1.listDoubts [76] -/
def zf_Judge_listDoubts (N : Nat) (σ : zS) : Option (zS) :=
  (zf_Numbers_clear_c9 σ).bind fun r1 =>
  zb_Judge_listDoubts_9 N N r1 0
def zb_Judge_fitsRing_3 (N : Nat) : Nat → zS → Int32 → Int32 → Int32 → Int32 → Option (Int32)
  | 0, _, _, _, _, _ => none
  | n + 1, σ, v1, v2, v3, v4 =>
    if v1 ≤ v4 then
      some (1)
    else
      if 4 ≤ v4 then
        some (1)
      else
        if 0 ≤ v4 ∧ v4 < 4 then
          if ((σ 78 v4.toNatClampNeg) / 24) = v2 then
            some (0)
          else
            if 0 ≤ v4 ∧ v4 < 4 then
              (zf_Judge_canMeet σ ((σ 78 v4.toNatClampNeg) / 24) (zJ_rem (σ 78 v4.toNatClampNeg) 24) v2 v3).bind fun r6 =>
              if ¬ r6 = 0 then
                zb_Judge_fitsRing_3 N n σ v1 v2 v3 (v4 + 1)
              else
                some (0)
            else none
        else none
/-- RX1.fitsRing [76] -/
def zf_Judge_fitsRing (N : Nat) (σ : zS) (x1 : Int32) (x2 : Int32) (x3 : Int32) : Option (Int32) :=
  zb_Judge_fitsRing_3 N N σ x1 x2 x3 0
def zb_Judge_countRingsWith_116 (kr : zS → Int32 → Int32 → Option (Int32 × zS)) (k6 : zS → Int32 → Int32 → Int32 → Int32 → Int32 → Int32 → Option (Int32 × zS)) (N : Nat) (σ : zS) (v1 : Int32) (v2 : Int32) (v3 : Int32) (v4 : Int32) (v5 : Int32) (v6 : Int32) : Option (Int32 × zS) :=
  k6 σ v1 v2 v3 v4 v5 (v6 + 1)
def zb_Judge_countRingsWith_6 (kr : zS → Int32 → Int32 → Option (Int32 × zS)) (N : Nat) : Nat → zS → Int32 → Int32 → Int32 → Int32 → Int32 → Int32 → Option (Int32 × zS)
  | 0, _, _, _, _, _, _, _ => none
  | n + 1, σ, v1, v2, v3, v4, v5, v6 =>
    (zf_Program_lengthOf σ v4).bind fun r1 =>
    if r1 ≤ v6 then
      some (v5, σ)
    else
      if 4 ≤ v1 then
        some (v5, σ)
      else
        (zf_Program_slotOf σ v4 v6).bind fun r4 =>
        if 0 ≤ r4 ∧ r4 < 97 then
          if 0 ≤ r4 ∧ r4 < 97 then
            if ¬ (σ 7 r4.toNatClampNeg) = 3 then
              zb_Judge_countRingsWith_116 kr (zb_Judge_countRingsWith_6 kr N n) N σ v1 v2 v3 v4 v5 v6
            else
              if ((zJ_ushr (σ 11 r4.toNatClampNeg) v3) &&& 1) = 0 then
                zb_Judge_countRingsWith_116 kr (zb_Judge_countRingsWith_6 kr N n) N σ v1 v2 v3 v4 v5 v6
              else
                if ¬ ((σ 11 r4.toNatClampNeg) &&& v2) = 0 then
                  zb_Judge_countRingsWith_116 kr (zb_Judge_countRingsWith_6 kr N n) N σ v1 v2 v3 v4 v5 v6
                else
                  (zf_Judge_fitsRing N σ v1 v4 v6).bind fun r10 =>
                  if r10 = 0 then
                    zb_Judge_countRingsWith_116 kr (zb_Judge_countRingsWith_6 kr N n) N σ v1 v2 v3 v4 v5 v6
                  else
                    if 0 ≤ v1 ∧ v1 < 4 then
                      (kr (zx_up σ 78 v1.toNatClampNeg r4) (v1 + 1) (v2 ||| (σ 11 r4.toNatClampNeg))).bind fun r13 =>
                      zb_Judge_countRingsWith_116 kr (zb_Judge_countRingsWith_6 kr N n) N r13.2 v1 v2 v3 v4 (v5 + r13.1) v6
                    else none
          else none
        else none
/-- RX1.countRingsWith [76] -/
def zf_Judge_countRingsWith (kr : zS → Int32 → Int32 → Option (Int32 × zS)) (N : Nat) (σ : zS) (x1 : Int32) (x2 : Int32) (x3 : Int32) (x4 : Int32) : Option (Int32 × zS) :=
  zb_Judge_countRingsWith_6 kr N N σ x1 x2 x3 x4 0 0
def zb_Judge_countRingsFrom_69 (kr : zS → Int32 → Int32 → Option (Int32 × zS)) (N : Nat) : Nat → zS → Int32 → Int32 → Int32 → Int32 → Int32 → Option (Int32 × zS)
  | 0, _, _, _, _, _, _ => none
  | n + 1, σ, v1, v2, v4, v5, v6 =>
    if (σ 4 2) ≤ v6 then
      some (v5, σ)
    else
      (zf_Judge_countRingsWith kr N σ v1 v2 v4 v6).bind fun r7 =>
      zb_Judge_countRingsFrom_69 kr N n r7.2 v1 v2 v4 (v5 + r7.1) (v6 + 1)
def zb_Judge_countRingsFrom_59 (kr : zS → Int32 → Int32 → Option (Int32 × zS)) (N : Nat) (σ : zS) (v1 : Int32) (v2 : Int32) (v3 : Int32) (v4 : Int32) (s0 : Int32) : Option (Int32 × zS) :=
  zb_Judge_countRingsFrom_69 kr N N σ v1 v2 v4 s0 ((v3 / 24) + 1)
/-- RX1.countRingsFrom [76] -/
def zf_Judge_countRingsFromB (kr : zS → Int32 → Int32 → Option (Int32 × zS)) (N : Nat) (σ : zS) (x1 : Int32) (x2 : Int32) : Option (Int32 × zS) :=
  if x1 ≤ 0 then
    some (0, σ)
  else
    if x1 ≤ 4 then
      if 0 ≤ (x1 - 1) ∧ (x1 - 1) < 4 then
        if 0 ≤ (σ 78 (x1 - 1).toNatClampNeg) ∧ (σ 78 (x1 - 1).toNatClampNeg) < 97 then
          if x1 ≤ 1 then
            zb_Judge_countRingsFrom_59 kr N σ x1 x2 (σ 78 0) (σ 8 (σ 78 (x1 - 1).toNatClampNeg).toNatClampNeg) 0
          else
            if 0 ≤ (σ 78 0) ∧ (σ 78 0) < 97 then
              zb_Judge_countRingsFrom_59 kr N σ x1 x2 (σ 78 0) (σ 8 (σ 78 (x1 - 1).toNatClampNeg).toNatClampNeg) ((zJ_ushr (σ 11 (σ 78 0).toNatClampNeg) (σ 8 (σ 78 (x1 - 1).toNatClampNeg).toNatClampNeg)) &&& 1)
            else none
        else none
      else none
    else
      some (0, σ)
def zf_Judge_countRingsFrom (N : Nat) : Nat → zS → Int32 → Int32 → Option (Int32 × zS)
  | 0, _, _, _ => none
  | n + 1, σ, x1, x2 => zf_Judge_countRingsFromB (zf_Judge_countRingsFrom N n) N σ x1 x2
def zb_Judge_countRings_63 (k4 : zS → Int32 → Int32 → Option (Int32 × zS)) (N : Nat) (σ : zS) (v1 : Int32) (v2 : Int32) : Option (Int32 × zS) :=
  k4 σ v1 (v2 + 1)
def zb_Judge_countRings_4 (N : Nat) : Nat → zS → Int32 → Int32 → Option (Int32 × zS)
  | 0, _, _, _ => none
  | n + 1, σ, v1, v2 =>
    if 96 ≤ v2 then
      some (v1, σ)
    else
      (zf_Program_slotOf σ (v2 / 24) (zJ_rem v2 24)).bind fun r2 =>
      if 0 ≤ r2 ∧ r2 < 97 then
        if ¬ (σ 7 r2.toNatClampNeg) = 3 then
          zb_Judge_countRings_63 (zb_Judge_countRings_4 N n) N σ v1 v2
        else
          if 0 ≤ r2 ∧ r2 < 97 then
            (zf_Judge_countRingsFrom N 5 (zx_up σ 78 0 r2) 1 (σ 11 r2.toNatClampNeg)).bind fun r6 =>
            zb_Judge_countRings_63 (zb_Judge_countRings_4 N n) N r6.2 (v1 + r6.1) v2
          else none
      else none
/-- RX1.countRings [76] -/
def zf_Judge_countRings (N : Nat) (σ : zS) : Option (Int32 × zS) :=
  zb_Judge_countRings_4 N N σ 0 0
def zb_Judge_stepsWith_68 (k6 : zS → Int32 → Int32 → Int32 → Int32 → Int32 → Option (Int32)) (N : Nat) (σ : zS) (v1 : Int32) (v2 : Int32) (v3 : Int32) (v4 : Int32) (v5 : Int32) : Option (Int32) :=
  k6 σ v1 v2 v3 v4 (v5 + 1)
def zb_Judge_stepsWith_6 (N : Nat) : Nat → zS → Int32 → Int32 → Int32 → Int32 → Int32 → Option (Int32)
  | 0, _, _, _, _, _, _ => none
  | n + 1, σ, v1, v2, v3, v4, v5 =>
    (zf_Program_lengthOf σ v1).bind fun r1 =>
    if r1 ≤ v5 then
      some (v4)
    else
      (zf_Program_slotOf σ v1 v5).bind fun r3 =>
      if 0 ≤ r3 ∧ r3 < 97 then
        if ¬ (σ 7 r3.toNatClampNeg) = v2 then
          zb_Judge_stepsWith_68 (zb_Judge_stepsWith_6 N n) N σ v1 v2 v3 v4 v5
        else
          if 0 ≤ r3 ∧ r3 < 97 then
            if ¬ (σ 8 r3.toNatClampNeg) = v3 then
              zb_Judge_stepsWith_68 (zb_Judge_stepsWith_6 N n) N σ v1 v2 v3 v4 v5
            else
              zb_Judge_stepsWith_68 (zb_Judge_stepsWith_6 N n) N σ v1 v2 v3 (v4 ||| (zJ_shl 1 v5)) v5
          else none
      else none
/-- RX1.stepsWith [76] -/
def zf_Judge_stepsWith (N : Nat) (σ : zS) (x1 : Int32) (x2 : Int32) (x3 : Int32) : Option (Int32) :=
  zb_Judge_stepsWith_6 N N σ x1 x2 x3 0 0
def zb_Judge_behind_62 (σ : zS) (v5 : Int32) (v6 : Int32) (s0 : Int32) : Option (Int32) :=
  if v5 < 0 then
    some (s0)
  else
    if v6 ≤ v5 then
      some (s0)
    else
      some ((s0 ||| (zJ_shl 1 v5)))
def zb_Judge_behind_61 (σ : zS) (v5 : Int32) (v6 : Int32) : Option (Int32) :=
  zb_Judge_behind_62 σ v5 v6 0
/-- RX1.behind [76] -/
def zf_Judge_behind (σ : zS) (x1 : Int32) (x2 : Int32) : Option (Int32) :=
  (zf_Program_slotOf σ x1 x2).bind fun r1 =>
  if 0 ≤ r1 ∧ r1 < 97 then
    if 0 ≤ r1 ∧ r1 < 97 then
      (zf_Program_lengthOf σ x1).bind fun r4 =>
      if (σ 9 r1.toNatClampNeg) < 0 then
        zb_Judge_behind_61 σ (σ 10 r1.toNatClampNeg) r4
      else
        if r4 ≤ (σ 9 r1.toNatClampNeg) then
          zb_Judge_behind_61 σ (σ 10 r1.toNatClampNeg) r4
        else
          zb_Judge_behind_62 σ (σ 10 r1.toNatClampNeg) r4 (zJ_shl 1 (σ 9 r1.toNatClampNeg))
    else none
  else none
def zb_Judge_spread_53 (k20 : zS → Int32 → Int32 → Int32 → Int32 → Int32 → Int32 → Option (Int32)) (N : Nat) (σ : zS) (v1 : Int32) (v3 : Int32) (v4 : Int32) (v5 : Int32) (v6 : Int32) (v7 : Int32) : Option (Int32) :=
  k20 σ v1 v3 v4 v5 v6 (v7 + 1)
def zb_Judge_spread_20 (k6 : zS → Int32 → Int32 → Int32 → Int32 → Option (Int32)) (N : Nat) : Nat → zS → Int32 → Int32 → Int32 → Int32 → Int32 → Int32 → Option (Int32)
  | 0, _, _, _, _, _, _, _ => none
  | n + 1, σ, v1, v3, v4, v5, v6, v7 =>
    if 24 ≤ v7 then
      if ¬ v4 = v6 then
        k6 σ v1 v3 v4 (v5 + 1)
      else
        some (v4)
    else
      if ((v4 &&& (v3 ^^^ (-1))) &&& (zJ_shl 1 v7)) = 0 then
        zb_Judge_spread_53 (zb_Judge_spread_20 k6 N n) N σ v1 v3 v4 v5 v6 v7
      else
        (zf_Judge_behind σ v1 v7).bind fun r5 =>
        zb_Judge_spread_53 (zb_Judge_spread_20 k6 N n) N σ v1 v3 (v4 ||| r5) v5 v6 v7
def zb_Judge_spread_6 (N : Nat) : Nat → zS → Int32 → Int32 → Int32 → Int32 → Option (Int32)
  | 0, _, _, _, _, _ => none
  | n + 1, σ, v1, v3, v4, v5 =>
    if 24 ≤ v5 then
      some (v4)
    else
      zb_Judge_spread_20 (zb_Judge_spread_6 N n) N N σ v1 v3 v4 v5 v4 0
/-- RX1.spread [76] -/
def zf_Judge_spread (N : Nat) (σ : zS) (x1 : Int32) (x2 : Int32) (x3 : Int32) : Option (Int32) :=
  zb_Judge_spread_6 N N σ x1 x3 x2 0
def zb_Judge_stepsAfter_31 (k5 : zS → Int32 → Int32 → Int32 → Int32 → Option (Int32)) (N : Nat) (σ : zS) (v1 : Int32) (v2 : Int32) (v3 : Int32) (v4 : Int32) : Option (Int32) :=
  k5 σ v1 v2 v3 (v4 + 1)
def zb_Judge_stepsAfter_5 (N : Nat) : Nat → zS → Int32 → Int32 → Int32 → Int32 → Option (Int32)
  | 0, _, _, _, _, _ => none
  | n + 1, σ, v1, v2, v3, v4 =>
    if 24 ≤ v4 then
      (zf_Judge_spread N σ v1 v3 0).bind fun r2 =>
      some (r2)
    else
      if ((zJ_ushr v2 v4) &&& 1) = 0 then
        zb_Judge_stepsAfter_31 (zb_Judge_stepsAfter_5 N n) N σ v1 v2 v3 v4
      else
        (zf_Judge_behind σ v1 v4).bind fun r4 =>
        zb_Judge_stepsAfter_31 (zb_Judge_stepsAfter_5 N n) N σ v1 v2 (v3 ||| r4) v4
/-- RX1.stepsAfter [76] -/
def zf_Judge_stepsAfter (N : Nat) (σ : zS) (x1 : Int32) (x2 : Int32) : Option (Int32) :=
  zb_Judge_stepsAfter_5 N N σ x1 x2 0 0
def zb_Judge_stepsNear_16 (N : Nat) (σ : zS) (v1 : Int32) (v2 : Int32) (s0 : Int32) : Option (Int32) :=
  (zf_Judge_stepsWith N σ v1 11 v2).bind fun r3 =>
  (zf_Judge_spread N σ v1 s0 r3).bind fun r4 =>
  if v2 = v1 then
    some (r4)
  else
    (zf_Program_startersOf σ v2).bind fun r6 =>
    if ¬ r6 = (zJ_shl 1 v1) then
      some (r4)
    else
      (zf_Judge_stepsWith N σ v1 10 v2).bind fun r8 =>
      (zf_Judge_stepsAfter N σ v1 r8).bind fun r9 =>
      some ((r4 &&& r9))
/-- RX1.stepsNear [76] -/
def zf_Judge_stepsNear (N : Nat) (σ : zS) (x1 : Int32) (x2 : Int32) : Option (Int32) :=
  (zf_Program_lengthOf σ x1).bind fun r1 =>
  if r1 ≤ 0 then
    zb_Judge_stepsNear_16 N σ x1 x2 0
  else
    zb_Judge_stepsNear_16 N σ x1 x2 1
def zb_Judge_prepare_14 (N : Nat) : Nat → zS → Int32 → Option (zS)
  | 0, _, _ => none
  | n + 1, σ, v1 =>
    if 16 ≤ v1 then
      (zf_Judge_listDoubts N σ).bind fun r3 =>
      (zf_Judge_countRings N r3).bind fun r4 =>
      some ((zx_up r4.2 76 4 r4.1))
    else
      (zf_Judge_stepsNear N σ (v1 / 4) (zJ_rem v1 4)).bind fun r5 =>
      if 0 ≤ v1 ∧ v1 < 16 then
        zb_Judge_prepare_14 N n (zx_up σ 77 v1.toNatClampNeg r5) (v1 + 1)
      else none
/-- RX1.prepare [76] -/
def zf_Judge_prepare (N : Nat) (σ : zS) : Option (zS) :=
  if ¬ (σ 76 5) = 0 then
    some (σ)
  else
    zb_Judge_prepare_14 N N (zx_up σ 76 5 1) 0
/-- RX11.doubts [2] -/
def zf_X_doubts (N : Nat) (σ : zS) : Option (Int32 × zS) :=
  if ¬ (σ 2 13) = 0 then
    (zf_Judge_prepare N σ).bind fun r2 =>
    some ((r2 79 1), r2)
  else
    some ((-101), σ)
def zb_M_behindOf_69 (σ : zS) (v1 : Int32) (s0 : Int32) : Option (Int32) :=
  if 0 ≤ v1 ∧ v1 < 4 then
    some ((s0 &&& ((zJ_shl 1 (σ 90 v1.toNatClampNeg)) - 1)))
  else none
def zb_M_behindOf_53 (σ : zS) (v1 : Int32) (v3 : Int32) (v4 : Int32) : Option (Int32) :=
  if 0 ≤ v3 ∧ v3 < 96 then
    zb_M_behindOf_69 σ v1 (v4 ||| (zJ_shl 1 (σ 95 v3.toNatClampNeg)))
  else none
def zb_M_behindOf_30 (σ : zS) (v1 : Int32) (v3 : Int32) (s0 : Int32) : Option (Int32) :=
  if 0 ≤ v3 ∧ v3 < 96 then
    if (σ 92 v3.toNatClampNeg) = 5 then
      zb_M_behindOf_53 σ v1 v3 s0
    else
      if 0 ≤ v3 ∧ v3 < 96 then
        if ¬ (σ 92 v3.toNatClampNeg) = 6 then
          zb_M_behindOf_69 σ v1 s0
        else
          zb_M_behindOf_53 σ v1 v3 s0
      else none
  else none
/-- RX12.behindOf [82] -/
def zf_M_behindOf (σ : zS) (x1 : Int32) (x2 : Int32) : Option (Int32) :=
  if 0 ≤ ((24 * x1) + x2) ∧ ((24 * x1) + x2) < 96 then
    if ¬ (σ 92 ((24 * x1) + x2).toNatClampNeg) = 13 then
      if 0 ≤ ((24 * x1) + x2) ∧ ((24 * x1) + x2) < 96 then
        zb_M_behindOf_30 σ x1 ((24 * x1) + x2) (zJ_shl 1 (σ 94 ((24 * x1) + x2).toNatClampNeg))
      else none
    else
      zb_M_behindOf_30 σ x1 ((24 * x1) + x2) 0
  else none
def zb_M_reached_79 (k6 : zS → Int32 → Int32 → Int32 → Int32 → Option (Int32)) (N : Nat) (σ : zS) (v1 : Int32) (v3 : Int32) (v4 : Int32) (s0 : Int32) : Option (Int32) :=
  k6 σ v1 v3 v4 s0
def zb_M_reached_61 (k18 : zS → Int32 → Int32 → Int32 → Int32 → Int32 → Option (Int32)) (N : Nat) (σ : zS) (v1 : Int32) (v3 : Int32) (v4 : Int32) (v6 : Int32) (v7 : Int32) : Option (Int32) :=
  k18 σ v1 v3 v4 v6 (v7 + 1)
def zb_M_reached_18 (k6 : zS → Int32 → Int32 → Int32 → Int32 → Option (Int32)) (N : Nat) : Nat → zS → Int32 → Int32 → Int32 → Int32 → Int32 → Option (Int32)
  | 0, _, _, _, _, _, _ => none
  | n + 1, σ, v1, v3, v4, v6, v7 =>
    if 0 ≤ v1 ∧ v1 < 4 then
      if (σ 90 v1.toNatClampNeg) ≤ v7 then
        if v4 = v6 then
          zb_M_reached_79 k6 N σ v1 v3 v4 0
        else
          zb_M_reached_79 k6 N σ v1 v3 v4 1
      else
        if ¬ ((zJ_shr v4 v7) &&& 1) = 1 then
          zb_M_reached_61 (zb_M_reached_18 k6 N n) N σ v1 v3 v4 v6 v7
        else
          if ¬ ((zJ_shr v3 v7) &&& 1) = 0 then
            zb_M_reached_61 (zb_M_reached_18 k6 N n) N σ v1 v3 v4 v6 v7
          else
            (zf_M_behindOf σ v1 v7).bind fun r7 =>
            zb_M_reached_61 (zb_M_reached_18 k6 N n) N σ v1 v3 (v4 ||| r7) v6 v7
    else none
def zb_M_reached_6 (N : Nat) : Nat → zS → Int32 → Int32 → Int32 → Int32 → Option (Int32)
  | 0, _, _, _, _, _ => none
  | n + 1, σ, v1, v3, v4, v5 =>
    if v5 = 0 then
      some (v4)
    else
      zb_M_reached_18 (zb_M_reached_6 N n) N N σ v1 v3 v4 v4 0
/-- RX12.reached [82] -/
def zf_M_reached (N : Nat) (σ : zS) (x1 : Int32) (x2 : Int32) (x3 : Int32) : Option (Int32) :=
  zb_M_reached_6 N N σ x1 x3 x2 1
def zb_M_isApart_201 (N : Nat) (σ : zS) : Option (Int32) :=
  some (1)
def zb_M_isApart_186 (N : Nat) (σ : zS) (v2 : Int32) (v3 : Int32) (v7 : Int32) : Option (Int32) :=
  (zf_M_reached N σ v2 1 v7).bind fun r3 =>
  if ¬ ((zJ_shr r3 v3) &&& 1) = 0 then
    some (0)
  else
    zb_M_isApart_201 N σ
def zb_M_isApart_165 (k15 : zS → Int32 → Int32 → Int32 → Int32 → Int32 → Int32 → Int32 → Int32 → Option (Int32)) (N : Nat) (σ : zS) (v1 : Int32) (v2 : Int32) (v3 : Int32) (v4 : Int32) (v5 : Int32) (v6 : Int32) (v7 : Int32) (v8 : Int32) : Option (Int32) :=
  k15 σ v1 v2 v3 v4 v5 v6 v7 (v8 + 1)
def zb_M_isApart_135 (k15 : zS → Int32 → Int32 → Int32 → Int32 → Int32 → Int32 → Int32 → Int32 → Option (Int32)) (N : Nat) (σ : zS) (v1 : Int32) (v2 : Int32) (v3 : Int32) (v4 : Int32) (v5 : Int32) (v6 : Int32) (v7 : Int32) (v8 : Int32) (v9 : Int32) : Option (Int32) :=
  if 0 ≤ v8 ∧ v8 < 96 then
    if ¬ (σ 92 v8.toNatClampNeg) = 11 then
      zb_M_isApart_165 k15 N σ v1 v2 v3 v4 v5 v6 v7 v8
    else
      if ¬ v9 = v2 then
        zb_M_isApart_165 k15 N σ v1 v2 v3 v4 v5 v6 v7 v8
      else
        zb_M_isApart_165 k15 N σ v1 v2 v3 v4 v5 v6 (v7 ||| (zJ_shl 1 (zJ_rem v8 24))) v8
  else none
def zb_M_isApart_133 (k15 : zS → Int32 → Int32 → Int32 → Int32 → Int32 → Int32 → Int32 → Int32 → Option (Int32)) (N : Nat) (σ : zS) (v1 : Int32) (v2 : Int32) (v3 : Int32) (v4 : Int32) (v5 : Int32) (v7 : Int32) (v8 : Int32) (v9 : Int32) (s0 : Int32) : Option (Int32) :=
  zb_M_isApart_135 k15 N σ v1 v2 v3 v4 v5 s0 v7 v8 v9
def zb_M_isApart_132 (k15 : zS → Int32 → Int32 → Int32 → Int32 → Int32 → Int32 → Int32 → Int32 → Option (Int32)) (N : Nat) (σ : zS) (v1 : Int32) (v2 : Int32) (v3 : Int32) (v4 : Int32) (v5 : Int32) (v7 : Int32) (v8 : Int32) (v9 : Int32) : Option (Int32) :=
  zb_M_isApart_133 k15 N σ v1 v2 v3 v4 v5 v7 v8 v9 0
def zb_M_isApart_128 (k15 : zS → Int32 → Int32 → Int32 → Int32 → Int32 → Int32 → Int32 → Int32 → Option (Int32)) (N : Nat) (σ : zS) (v1 : Int32) (v2 : Int32) (v3 : Int32) (v4 : Int32) (v5 : Int32) (v7 : Int32) (v8 : Int32) (v9 : Int32) : Option (Int32) :=
  zb_M_isApart_133 k15 N σ v1 v2 v3 v4 v5 v7 v8 v9 1
def zb_M_isApart_91 (k15 : zS → Int32 → Int32 → Int32 → Int32 → Int32 → Int32 → Int32 → Int32 → Option (Int32)) (N : Nat) (σ : zS) (v1 : Int32) (v2 : Int32) (v3 : Int32) (v4 : Int32) (v6 : Int32) (v7 : Int32) (v8 : Int32) (v9 : Int32) (s0 : Int32) : Option (Int32) :=
  if ¬ v6 = 0 then
    zb_M_isApart_128 k15 N σ v1 v2 v3 v4 s0 v7 v8 v9
  else
    if ¬ v9 = v2 then
      zb_M_isApart_132 k15 N σ v1 v2 v3 v4 s0 v7 v8 v9
    else
      (zf_M_behindOf σ v2 (zJ_rem v8 24)).bind fun r19 =>
      (zf_M_reached N σ v2 r19 0).bind fun r20 =>
      if ¬ ((zJ_shr r20 v3) &&& 1) = 1 then
        zb_M_isApart_132 k15 N σ v1 v2 v3 v4 s0 v7 v8 v9
      else
        zb_M_isApart_128 k15 N σ v1 v2 v3 v4 s0 v7 v8 v9
def zb_M_isApart_90 (k15 : zS → Int32 → Int32 → Int32 → Int32 → Int32 → Int32 → Int32 → Int32 → Option (Int32)) (N : Nat) (σ : zS) (v1 : Int32) (v2 : Int32) (v3 : Int32) (v4 : Int32) (v6 : Int32) (v7 : Int32) (v8 : Int32) (v9 : Int32) : Option (Int32) :=
  zb_M_isApart_91 k15 N σ v1 v2 v3 v4 v6 v7 v8 v9 0
def zb_M_isApart_15 (N : Nat) : Nat → zS → Int32 → Int32 → Int32 → Int32 → Int32 → Int32 → Int32 → Int32 → Option (Int32)
  | 0, _, _, _, _, _, _, _, _, _ => none
  | n + 1, σ, v1, v2, v3, v4, v5, v6, v7, v8 =>
    if (24 * (σ 82 17)) ≤ v8 then
      if v4 = 0 then
        zb_M_isApart_186 N σ v2 v3 v7
      else
        if v5 = 0 then
          zb_M_isApart_186 N σ v2 v3 v7
        else
          if v6 = 0 then
            zb_M_isApart_201 N σ
          else
            zb_M_isApart_186 N σ v2 v3 v7
    else
      if 0 ≤ (v8 / 24) ∧ (v8 / 24) < 4 then
        if (σ 90 (v8 / 24).toNatClampNeg) ≤ (zJ_rem v8 24) then
          zb_M_isApart_165 (zb_M_isApart_15 N n) N σ v1 v2 v3 v4 v5 v6 v7 v8
        else
          if 0 ≤ v8 ∧ v8 < 96 then
            if ¬ (σ 93 v8.toNatClampNeg) = v1 then
              zb_M_isApart_165 (zb_M_isApart_15 N n) N σ v1 v2 v3 v4 v5 v6 v7 v8
            else
              if 0 ≤ v8 ∧ v8 < 96 then
                if ¬ (σ 92 v8.toNatClampNeg) = 10 then
                  zb_M_isApart_135 (zb_M_isApart_15 N n) N σ v1 v2 v3 v4 v5 v6 v7 v8 (v8 / 24)
                else
                  if v5 = 0 then
                    zb_M_isApart_90 (zb_M_isApart_15 N n) N σ v1 v2 v3 1 v6 v7 v8 (v8 / 24)
                  else
                    if ¬ (v8 / 24) = v2 then
                      zb_M_isApart_90 (zb_M_isApart_15 N n) N σ v1 v2 v3 1 v6 v7 v8 (v8 / 24)
                    else
                      zb_M_isApart_91 (zb_M_isApart_15 N n) N σ v1 v2 v3 1 v6 v7 v8 (v8 / 24) 1
              else none
          else none
      else none
/-- RX12.isApart [82] -/
def zf_M_isApart (N : Nat) (σ : zS) (x1 : Int32) (x2 : Int32) (x3 : Int32) : Option (Int32) :=
  zb_M_isApart_15 N N σ x1 x2 x3 0 1 0 0 0
/-- RX12.meets [82] -/
def zf_M_meets (N : Nat) (σ : zS) (x1 : Int32) (x2 : Int32) (x3 : Int32) (x4 : Int32) : Option (Int32) :=
  (zf_M_isApart N σ x1 x3 x4).bind fun r1 =>
  if ¬ r1 = 0 then
    some (0)
  else
    (zf_M_isApart N σ x3 x1 x2).bind fun r3 =>
    if ¬ r3 = 0 then
      some (0)
    else
      some (1)
/-- RX12.isDoubt [82] -/
def zf_M_isDoubt (N : Nat) (σ : zS) (x1 : Int32) (x2 : Int32) : Option (Int32) :=
  (zf_M_wouldRace σ x1 x2).bind fun r1 =>
  if r1 = 0 then
    some (0)
  else
    if 0 ≤ x1 ∧ x1 < 96 then
      if 0 ≤ x2 ∧ x2 < 96 then
        if ¬ ((σ 96 x1.toNatClampNeg) &&& (σ 96 x2.toNatClampNeg)) = 0 then
          some (0)
        else
          (zf_M_meets N σ (x1 / 24) (zJ_rem x1 24) (x2 / 24) (zJ_rem x2 24)).bind fun r6 =>
          if r6 = 0 then
            some (0)
          else
            some (1)
      else none
    else none
def zb_M_doubtAt_115 (k5 : zS → Int32 → Int32 → Int32 → Int32 → Option (Int32)) (N : Nat) (σ : zS) (v1 : Int32) (v2 : Int32) (v3 : Int32) (v4 : Int32) : Option (Int32) :=
  k5 σ v1 v2 v3 (v4 + 1)
def zb_M_doubtAt_109 (k29 : zS → Int32 → Int32 → Int32 → Int32 → Int32 → Option (Int32)) (N : Nat) (σ : zS) (v1 : Int32) (v2 : Int32) (v3 : Int32) (v4 : Int32) (v5 : Int32) : Option (Int32) :=
  k29 σ v1 v2 v3 v4 (v5 + 1)
def zb_M_doubtAt_106 (k29 : zS → Int32 → Int32 → Int32 → Int32 → Int32 → Option (Int32)) (N : Nat) (σ : zS) (v1 : Int32) (v2 : Int32) (v3 : Int32) (v4 : Int32) (v5 : Int32) : Option (Int32) :=
  zb_M_doubtAt_109 k29 N σ v1 v2 (v3 + 1) v4 v5
def zb_M_doubtAt_29 (k5 : zS → Int32 → Int32 → Int32 → Int32 → Option (Int32)) (N : Nat) : Nat → zS → Int32 → Int32 → Int32 → Int32 → Int32 → Option (Int32)
  | 0, _, _, _, _, _, _ => none
  | n + 1, σ, v1, v2, v3, v4, v5 =>
    if (24 * (σ 82 17)) ≤ v5 then
      zb_M_doubtAt_115 k5 N σ v1 v2 v3 v4
    else
      if 0 ≤ (v4 / 24) ∧ (v4 / 24) < 4 then
        if (σ 90 (v4 / 24).toNatClampNeg) ≤ (zJ_rem v4 24) then
          zb_M_doubtAt_115 k5 N σ v1 v2 v3 v4
        else
          if 0 ≤ (v5 / 24) ∧ (v5 / 24) < 4 then
            if (σ 90 (v5 / 24).toNatClampNeg) ≤ (zJ_rem v5 24) then
              zb_M_doubtAt_109 (zb_M_doubtAt_29 k5 N n) N σ v1 v2 v3 v4 v5
            else
              (zf_M_isDoubt N σ v4 v5).bind fun r8 =>
              if r8 = 0 then
                zb_M_doubtAt_109 (zb_M_doubtAt_29 k5 N n) N σ v1 v2 v3 v4 v5
              else
                if ¬ v2 = 0 then
                  zb_M_doubtAt_106 (zb_M_doubtAt_29 k5 N n) N σ v1 v2 v3 v4 v5
                else
                  if ¬ v3 = v1 then
                    zb_M_doubtAt_106 (zb_M_doubtAt_29 k5 N n) N σ v1 v2 v3 v4 v5
                  else
                    some (((96 * v4) + v5))
          else none
      else none
def zb_M_doubtAt_5 (N : Nat) : Nat → zS → Int32 → Int32 → Int32 → Int32 → Option (Int32)
  | 0, _, _, _, _, _ => none
  | n + 1, σ, v1, v2, v3, v4 =>
    if (24 * (σ 82 17)) ≤ v4 then
      if v2 = 0 then
        some ((-1))
      else
        some (v3)
    else
      zb_M_doubtAt_29 (zb_M_doubtAt_5 N n) N N σ v1 v2 v3 v4 (24 * ((v4 / 24) + 1))
/-- RX12.doubtAt [82] -/
def zf_M_doubtAt (N : Nat) (σ : zS) (x1 : Int32) (x2 : Int32) : Option (Int32) :=
  zb_M_doubtAt_5 N N σ x1 x2 0 0
/-- RX12.doubts [82] -/
def zf_M_doubts (N : Nat) (σ : zS) : Option (Int32 × zS) :=
  if (σ 82 21) = 0 then
    some ((-101), (zx_up σ 82 0 0))
  else
    (zf_M_doubtAt N (zx_up σ 82 0 0) 0 1).bind fun r2 =>
    some (r2, (zx_up σ 82 0 0))
def zb_Numbers_get_c8_21 (σ : zS) : Option (Int32) :=
  some ((-1))
/-- RX4.get [79] -/
def zf_Numbers_get_c8 (σ : zS) (x1 : Int32) : Option (Int32) :=
  if x1 < 0 then
    zb_Numbers_get_c8_21 σ
  else
    if (σ 79 1) ≤ x1 then
      zb_Numbers_get_c8_21 σ
    else
      if x1 < 3456 then
        if 0 ≤ x1 ∧ x1 < 3456 then
          some ((σ 80 x1.toNatClampNeg))
        else none
      else
        zb_Numbers_get_c8_21 σ
/-- RX11.doubt [2] -/
def zf_X_doubt (N : Nat) (σ : zS) (x1 : Int32) (x2 : Int32) : Option (Int32 × zS) :=
  if ¬ (σ 2 13) = 0 then
    (zf_Judge_prepare N σ).bind fun r2 =>
    (zf_Numbers_get_c8 r2 x1).bind fun r3 =>
    (zf_Program_partOfPair r2 r3 x2).bind fun r4 =>
    some (r4, r2)
  else
    some ((-101), σ)
/-- RX12.doubt [82] -/
def zf_M_doubt (N : Nat) (σ : zS) (x1 : Int32) (x2 : Int32) : Option (Int32 × zS) :=
  if ¬ (σ 82 21) = 0 then
    (zf_M_doubtAt N (zx_up σ 82 0 0) x1 0).bind fun r2 =>
    if ¬ r2 = (-1) then
      (zf_M_ofPair (zx_up σ 82 0 0) r2 x2).bind fun r4 =>
      some (r4, (zx_up σ 82 0 0))
    else
      some ((-102), (zx_up σ 82 0 0))
  else
    some ((-101), (zx_up σ 82 0 0))
/-- RX11.meet [2] -/
def zf_X_meet (N : Nat) (σ : zS) (x1 : Int32) (x2 : Int32) (x3 : Int32) (x4 : Int32) : Option (Int32 × zS) :=
  if ¬ (σ 2 13) = 0 then
    if x1 = x3 then
      some ((-102), σ)
    else
      (zf_Program_slotOf σ x1 x2).bind fun r3 =>
      if r3 = 96 then
        some ((-102), σ)
      else
        (zf_Program_slotOf σ x3 x4).bind fun r5 =>
        if ¬ r5 = 96 then
          (zf_Judge_prepare N σ).bind fun r7 =>
          (zf_Judge_canMeet r7 x1 x2 x3 x4).bind fun r8 =>
          if r8 = 0 then
            some (0, r7)
          else
            some (1, r7)
        else
          some ((-102), σ)
  else
    some ((-101), σ)
/-- RX12.meet [82] -/
def zf_M_meet (N : Nat) (σ : zS) (x1 : Int32) (x2 : Int32) (x3 : Int32) (x4 : Int32) : Option (Int32 × zS) :=
  if ¬ (σ 82 21) = 0 then
    (zf_M_isStep (zx_up σ 82 0 0) x1 x2).bind fun r2 =>
    if r2 = 0 then
      some ((-102), (zx_up σ 82 0 0))
    else
      (zf_M_isStep (zx_up σ 82 0 0) x3 x4).bind fun r4 =>
      if r4 = 0 then
        some ((-102), (zx_up σ 82 0 0))
      else
        if ¬ x1 = x3 then
          (zf_M_meets N (zx_up σ 82 0 0) x1 x2 x3 x4).bind fun r7 =>
          if r7 = 0 then
            some (0, (zx_up σ 82 0 0))
          else
            some (1, (zx_up σ 82 0 0))
        else
          some ((-102), (zx_up σ 82 0 0))
  else
    some ((-101), (zx_up σ 82 0 0))
def zb_Judge_guardsOf_103 (k14 : zS → Int32 → Int32 → Int32 → Option (Int32)) (N : Nat) (σ : zS) (v1 : Int32) (v2 : Int32) (v3 : Int32) : Option (Int32) :=
  k14 σ v1 v2 (v3 + 1)
def zb_Judge_guardsOf_69 (k14 : zS → Int32 → Int32 → Int32 → Option (Int32)) (N : Nat) (σ : zS) (v1 : Int32) (v2 : Int32) (v3 : Int32) (v4 : Int32) (s0 : Int32) : Option (Int32) :=
  if s0 = 0 then
    zb_Judge_guardsOf_103 k14 N σ v1 v2 v3
  else
    if 0 ≤ v4 ∧ v4 < 97 then
      if ¬ (σ 8 v4.toNatClampNeg) = v1 then
        zb_Judge_guardsOf_103 k14 N σ v1 v2 v3
      else
        if 0 ≤ v4 ∧ v4 < 97 then
          zb_Judge_guardsOf_103 k14 N σ v1 (v2 &&& (σ 11 v4.toNatClampNeg)) v3
        else none
    else none
def zb_Judge_guardsOf_64 (k14 : zS → Int32 → Int32 → Int32 → Option (Int32)) (N : Nat) (σ : zS) (v1 : Int32) (v2 : Int32) (v3 : Int32) (v4 : Int32) : Option (Int32) :=
  zb_Judge_guardsOf_69 k14 N σ v1 v2 v3 v4 1
def zb_Judge_guardsOf_14 (N : Nat) : Nat → zS → Int32 → Int32 → Int32 → Option (Int32)
  | 0, _, _, _, _ => none
  | n + 1, σ, v1, v2, v3 =>
    if 96 ≤ v3 then
      some (v2)
    else
      (zf_Program_slotOf σ (v3 / 24) (zJ_rem v3 24)).bind fun r2 =>
      if 0 ≤ r2 ∧ r2 < 97 then
        if (σ 7 r2.toNatClampNeg) = 0 then
          zb_Judge_guardsOf_64 (zb_Judge_guardsOf_14 N n) N σ v1 v2 v3 r2
        else
          if 0 ≤ r2 ∧ r2 < 97 then
            if ¬ (σ 7 r2.toNatClampNeg) = 1 then
              zb_Judge_guardsOf_69 (zb_Judge_guardsOf_14 N n) N σ v1 v2 v3 r2 0
            else
              zb_Judge_guardsOf_64 (zb_Judge_guardsOf_14 N n) N σ v1 v2 v3 r2
          else none
      else none
/-- RX1.guardsOf [76] -/
def zf_Judge_guardsOf (N : Nat) (σ : zS) (x1 : Int32) : Option (Int32) :=
  zb_Judge_guardsOf_14 N N σ x1 ((zJ_shl 1 (σ 4 1)) - 1) 0
/-- RX11.guards [2] -/
def zf_X_guards (N : Nat) (σ : zS) (x1 : Int32) : Option (Int32) :=
  if ¬ (σ 2 13) = 0 then
    if x1 < 0 then
      some ((-102))
    else
      if x1 < (σ 4 0) then
        (zf_Judge_guardsOf N σ x1).bind fun r4 =>
        some (r4)
      else
        some ((-102))
  else
    some ((-101))
def zb_M_guards_97 (k43 : zS → Int32 → Int32 → Int32 → Option (Int32 × zS)) (N : Nat) (σ : zS) (v1 : Int32) (v2 : Int32) (v3 : Int32) : Option (Int32 × zS) :=
  k43 σ v1 v2 (v3 + 1)
def zb_M_guards_43 (N : Nat) : Nat → zS → Int32 → Int32 → Int32 → Option (Int32 × zS)
  | 0, _, _, _, _ => none
  | n + 1, σ, v1, v2, v3 =>
    if (24 * (σ 82 17)) ≤ v3 then
      some (v2, σ)
    else
      if 0 ≤ (v3 / 24) ∧ (v3 / 24) < 4 then
        if (σ 90 (v3 / 24).toNatClampNeg) ≤ (zJ_rem v3 24) then
          zb_M_guards_97 (zb_M_guards_43 N n) N σ v1 v2 v3
        else
          (zf_M_touches σ v3).bind fun r7 =>
          if r7 = 0 then
            zb_M_guards_97 (zb_M_guards_43 N n) N σ v1 v2 v3
          else
            if 0 ≤ v3 ∧ v3 < 96 then
              if ¬ (σ 93 v3.toNatClampNeg) = v1 then
                zb_M_guards_97 (zb_M_guards_43 N n) N σ v1 v2 v3
              else
                if 0 ≤ v3 ∧ v3 < 96 then
                  zb_M_guards_97 (zb_M_guards_43 N n) N σ v1 (v2 &&& (σ 96 v3.toNatClampNeg)) v3
                else none
            else none
      else none
/-- RX12.guards [82] -/
def zf_M_guards (N : Nat) (σ : zS) (x1 : Int32) : Option (Int32 × zS) :=
  if ¬ (σ 82 21) = 0 then
    (zf_M_in (zx_up σ 82 0 0) x1 0 ((σ 82 15) - 1)).bind fun r2 =>
    if ¬ r2 = 0 then
      zb_M_guards_43 N N (zx_up σ 82 0 0) x1 ((zJ_shl 1 (σ 82 16)) - 1) 0
    else
      some ((-102), (zx_up σ 82 0 0))
  else
    some ((-101), (zx_up σ 82 0 0))
/-- RX11.rings [2] -/
def zf_X_rings (N : Nat) (σ : zS) : Option (Int32 × zS) :=
  if ¬ (σ 2 13) = 0 then
    (zf_Judge_prepare N σ).bind fun r2 =>
    some ((r2 76 4), r2)
  else
    some ((-101), σ)
/-- RX12.isTaking [82] -/
def zf_M_isTaking (σ : zS) (x1 : Int32) : Option (Int32) :=
  if 0 ≤ (x1 / 24) ∧ (x1 / 24) < 4 then
    if (σ 90 (x1 / 24).toNatClampNeg) ≤ (zJ_rem x1 24) then
      some (0)
    else
      if 0 ≤ x1 ∧ x1 < 96 then
        if ¬ (σ 92 x1.toNatClampNeg) = 3 then
          some (0)
        else
          some (1)
      else none
  else none
/-- RX12.isHeld [82] -/
def zf_M_isHeld (σ : zS) (x1 : Int32) (x2 : Int32) : Option (Int32) :=
  if 0 ≤ x2 ∧ x2 < 96 then
    if 0 ≤ x1 ∧ x1 < 96 then
      if ¬ ((zJ_shr (σ 96 x2.toNatClampNeg) (σ 93 x1.toNatClampNeg)) &&& 1) = 1 then
        some (0)
      else
        some (1)
    else none
  else none
/-- RX12.goTogether [82] -/
def zf_M_goTogether (N : Nat) (σ : zS) (x1 : Int32) (x2 : Int32) : Option (Int32) :=
  if (x1 / 24) = (x2 / 24) then
    some (0)
  else
    if 0 ≤ x1 ∧ x1 < 96 then
      if 0 ≤ x2 ∧ x2 < 96 then
        if (σ 93 x1.toNatClampNeg) = (σ 93 x2.toNatClampNeg) then
          some (0)
        else
          if 0 ≤ x1 ∧ x1 < 96 then
            if 0 ≤ x2 ∧ x2 < 96 then
              if ¬ ((σ 96 x1.toNatClampNeg) &&& (σ 96 x2.toNatClampNeg)) = 0 then
                some (0)
              else
                (zf_M_meets N σ (x1 / 24) (zJ_rem x1 24) (x2 / 24) (zJ_rem x2 24)).bind fun r8 =>
                if r8 = 0 then
                  some (0)
                else
                  some (1)
            else none
          else none
      else none
    else none
def zb_M_rings_286 (k27 : zS → Int32 → Int32 → Int32 → Option (Int32 × zS)) (N : Nat) (σ : zS) (v1 : Int32) (v2 : Int32) (v3 : Int32) : Option (Int32 × zS) :=
  k27 σ v1 v2 (v3 + 1)
def zb_M_rings_280 (k43 : zS → Int32 → Int32 → Int32 → Int32 → Option (Int32 × zS)) (N : Nat) (σ : zS) (v1 : Int32) (v2 : Int32) (v3 : Int32) (v4 : Int32) : Option (Int32 × zS) :=
  k43 σ v1 v2 v3 (v4 + 1)
def zb_M_rings_274 (k118 : zS → Int32 → Int32 → Int32 → Int32 → Int32 → Option (Int32 × zS)) (N : Nat) (σ : zS) (v1 : Int32) (v2 : Int32) (v3 : Int32) (v4 : Int32) (v5 : Int32) : Option (Int32 × zS) :=
  k118 σ v1 v2 v3 v4 (v5 + 1)
def zb_M_rings_268 (k197 : zS → Int32 → Int32 → Int32 → Int32 → Int32 → Int32 → Option (Int32 × zS)) (N : Nat) (σ : zS) (v1 : Int32) (v2 : Int32) (v3 : Int32) (v4 : Int32) (v5 : Int32) (v6 : Int32) : Option (Int32 × zS) :=
  k197 σ v1 v2 v3 v4 v5 (v6 + 1)
def zb_M_rings_197 (k118 : zS → Int32 → Int32 → Int32 → Int32 → Int32 → Option (Int32 × zS)) (N : Nat) : Nat → zS → Int32 → Int32 → Int32 → Int32 → Int32 → Int32 → Option (Int32 × zS)
  | 0, _, _, _, _, _, _, _ => none
  | n + 1, σ, v1, v2, v3, v4, v5, v6 =>
    if v1 ≤ v6 then
      zb_M_rings_274 k118 N σ v1 v2 v3 v4 v5
    else
      (zf_M_isTaking σ v6).bind fun r26 =>
      if r26 = 0 then
        zb_M_rings_268 (zb_M_rings_197 k118 N n) N σ v1 v2 v3 v4 v5 v6
      else
        (zf_M_isHeld σ v5 v6).bind fun r28 =>
        if r28 = 0 then
          zb_M_rings_268 (zb_M_rings_197 k118 N n) N σ v1 v2 v3 v4 v5 v6
        else
          (zf_M_isHeld σ v6 v3).bind fun r30 =>
          if r30 = 0 then
            zb_M_rings_268 (zb_M_rings_197 k118 N n) N σ v1 v2 v3 v4 v5 v6
          else
            (zf_M_goTogether N σ v3 v6).bind fun r32 =>
            if r32 = 0 then
              zb_M_rings_268 (zb_M_rings_197 k118 N n) N σ v1 v2 v3 v4 v5 v6
            else
              (zf_M_goTogether N σ v4 v6).bind fun r34 =>
              if r34 = 0 then
                zb_M_rings_268 (zb_M_rings_197 k118 N n) N σ v1 v2 v3 v4 v5 v6
              else
                (zf_M_goTogether N σ v5 v6).bind fun r36 =>
                if r36 = 0 then
                  zb_M_rings_268 (zb_M_rings_197 k118 N n) N σ v1 v2 v3 v4 v5 v6
                else
                  zb_M_rings_268 (zb_M_rings_197 k118 N n) N σ v1 (v2 + 1) v3 v4 v5 v6
def zb_M_rings_184 (k118 : zS → Int32 → Int32 → Int32 → Int32 → Int32 → Option (Int32 × zS)) (N : Nat) (σ : zS) (v1 : Int32) (v3 : Int32) (v4 : Int32) (v5 : Int32) (s0 : Int32) (s1 : Int32) : Option (Int32 × zS) :=
  zb_M_rings_197 k118 N N σ v1 (s1 + s0) v3 v4 v5 (24 * ((v3 / 24) + 1))
def zb_M_rings_118 (k43 : zS → Int32 → Int32 → Int32 → Int32 → Option (Int32 × zS)) (N : Nat) : Nat → zS → Int32 → Int32 → Int32 → Int32 → Int32 → Option (Int32 × zS)
  | 0, _, _, _, _, _, _ => none
  | n + 1, σ, v1, v2, v3, v4, v5 =>
    if v1 ≤ v5 then
      zb_M_rings_280 k43 N σ v1 v2 v3 v4
    else
      (zf_M_isTaking σ v5).bind fun r15 =>
      if r15 = 0 then
        zb_M_rings_274 (zb_M_rings_118 k43 N n) N σ v1 v2 v3 v4 v5
      else
        (zf_M_isHeld σ v4 v5).bind fun r17 =>
        if r17 = 0 then
          zb_M_rings_274 (zb_M_rings_118 k43 N n) N σ v1 v2 v3 v4 v5
        else
          (zf_M_goTogether N σ v3 v5).bind fun r19 =>
          if r19 = 0 then
            zb_M_rings_274 (zb_M_rings_118 k43 N n) N σ v1 v2 v3 v4 v5
          else
            (zf_M_goTogether N σ v4 v5).bind fun r21 =>
            if ¬ r21 = 0 then
              (zf_M_isHeld σ v5 v3).bind fun r23 =>
              if r23 = 0 then
                zb_M_rings_184 (zb_M_rings_118 k43 N n) N σ v1 v3 v4 v5 0 v2
              else
                zb_M_rings_184 (zb_M_rings_118 k43 N n) N σ v1 v3 v4 v5 1 v2
            else
              zb_M_rings_274 (zb_M_rings_118 k43 N n) N σ v1 v2 v3 v4 v5
def zb_M_rings_105 (k43 : zS → Int32 → Int32 → Int32 → Int32 → Option (Int32 × zS)) (N : Nat) (σ : zS) (v1 : Int32) (v3 : Int32) (v4 : Int32) (s0 : Int32) (s1 : Int32) : Option (Int32 × zS) :=
  zb_M_rings_118 k43 N N σ v1 (s1 + s0) v3 v4 (24 * ((v3 / 24) + 1))
def zb_M_rings_43 (k27 : zS → Int32 → Int32 → Int32 → Option (Int32 × zS)) (N : Nat) : Nat → zS → Int32 → Int32 → Int32 → Int32 → Option (Int32 × zS)
  | 0, _, _, _, _, _ => none
  | n + 1, σ, v1, v2, v3, v4 =>
    if v1 ≤ v4 then
      zb_M_rings_286 k27 N σ v1 v2 v3
    else
      (zf_M_isTaking σ v3).bind fun r4 =>
      if r4 = 0 then
        zb_M_rings_286 k27 N σ v1 v2 v3
      else
        (zf_M_isTaking σ v4).bind fun r6 =>
        if r6 = 0 then
          zb_M_rings_280 (zb_M_rings_43 k27 N n) N σ v1 v2 v3 v4
        else
          (zf_M_isHeld σ v3 v4).bind fun r8 =>
          if r8 = 0 then
            zb_M_rings_280 (zb_M_rings_43 k27 N n) N σ v1 v2 v3 v4
          else
            (zf_M_goTogether N σ v3 v4).bind fun r10 =>
            if ¬ r10 = 0 then
              (zf_M_isHeld σ v4 v3).bind fun r12 =>
              if r12 = 0 then
                zb_M_rings_105 (zb_M_rings_43 k27 N n) N σ v1 v3 v4 0 v2
              else
                zb_M_rings_105 (zb_M_rings_43 k27 N n) N σ v1 v3 v4 1 v2
            else
              zb_M_rings_280 (zb_M_rings_43 k27 N n) N σ v1 v2 v3 v4
def zb_M_rings_27 (N : Nat) : Nat → zS → Int32 → Int32 → Int32 → Option (Int32 × zS)
  | 0, _, _, _, _ => none
  | n + 1, σ, v1, v2, v3 =>
    if v1 ≤ v3 then
      some (v2, σ)
    else
      zb_M_rings_43 (zb_M_rings_27 N n) N N σ v1 v2 v3 (24 * ((v3 / 24) + 1))
/-- RX12.rings [82] -/
def zf_M_rings (N : Nat) (σ : zS) : Option (Int32 × zS) :=
  if ¬ (σ 82 21) = 0 then
    zb_M_rings_27 N N (zx_up σ 82 0 0) (24 * (σ 82 17)) 0 0
  else
    some ((-101), (zx_up σ 82 0 0))
