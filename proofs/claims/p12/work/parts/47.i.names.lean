-- both answer alike
set_option maxRecDepth 2000
theorem zo_mk {x : Int32} (h : 0 ≤ x) : Int32.ofNat x.toNatClampNeg = x := by
  apply Int32.toInt_inj.mp
  have a := z_nat h
  have b := z_hi x
  rw [Int32.toInt_ofNat_of_lt (by omega)]
  omega
theorem z_raw256 : ∀ k : Fin 256, let x : Int32 := Int32.ofNat k.val - 128; 48 ≤ (x &&& 255) → (x &&& 255) ≤ 122 → (x &&& 255) = x := by decide +kernel
theorem z_raw {x : Int32} (h0 : -128 ≤ x) (h1 : x ≤ 127) (a : 48 ≤ (x &&& 255)) (b : (x &&& 255) ≤ 122) : (x &&& 255) = x := by
  have t0 : (-128 : Int) ≤ x.toInt := Int32.le_iff_toInt_le.mp h0
  have t1 : x.toInt ≤ 127 := Int32.le_iff_toInt_le.mp h1
  have e : x = Int32.ofNat (x.toInt + 128).toNat - 128 := by
    apply Int32.toInt_inj.mp
    have k : (128 : Int32).toInt = 128 := rfl
    rw [Int32.toInt_sub, Int32.toInt_ofNat_of_lt (by omega), k, Int.bmod_def]
    omega
  have q := z_raw256 ⟨(x.toInt + 128).toNat, by omega⟩
  dsimp only at q
  rw [← e] at q
  exact q a b
theorem Tk_name {b : Nat → Int32} {n p e : Int32} {w : Int64} (h : Tk b n p e 3 w) : p < n ∧ isLt (bt b n p) ∧ wordTo b n p e ∧ e - p ≤ 6 ∧ w = pkw b n p (e - p).toNatClampNeg := by
  rcases h with ⟨a1, a2, a3⟩ | ⟨a1, a2, a3, a4⟩ | ⟨a1, a2, a3, a4, a5⟩ | ⟨a1, a2, a3, a4⟩
  · exact absurd a2 (by decide)
  · rcases a4 with ⟨_, c⟩ | ⟨c, d, _⟩
    · exact absurd c (by decide)
    · exact ⟨a1, a2, a3, c, d⟩
  · rcases a5 with ⟨_, c⟩ | ⟨_, c⟩
    · exact absurd c (by decide)
    · exact absurd c (by decide)
  · rcases a4 with ⟨_, _, _, ⟨_, c⟩ | ⟨_, c⟩⟩ | ⟨_, _, ⟨d, c⟩ | ⟨_, c⟩⟩
    · exact absurd c (by decide)
    · exact absurd c (by decide)
    · rw [← c] at d; exact absurd d (by decide)
    · exact absurd c (by decide)
def BR (μ : zS) : Prop := ∀ x : Int32, 0 ≤ x → x < μ 82 4 → -128 ≤ μ 84 x.toNatClampNeg ∧ μ 84 x.toNatClampNeg ≤ 127
theorem MAt.cur {K P : Nat → Int32} {W : Nat → Int64} {E : Nat → Int32} {m a : Nat} {μ : zS} (tb : TB (μ 84) (μ 82 4) K P W E m) (br : BR μ) (h : MAt K P W E m μ a) (hk : K a = 3) : Cur μ (W a) := by
  obtain ⟨h5, h6, _, am⟩ := h
  obtain ⟨x1, x2, x3⟩ := tb.1 a am
  have n1 := tb.2.2.2.2.2
  rw [hk] at x3
  obtain ⟨pn, lt, wt, e6, ew⟩ := Tk_name x3
  have p0 : 0 ≤ P a := Int32.le_trans x1.1 x2.1
  have pe : P a < E (a + 1) := by
    refine Int32.not_le.mp fun q => ?_
    have q2 := Int32.le_antisymm q wt.1
    exact wt.2.2 (by rw [q2]; exact ⟨pn, Or.inl lt⟩)
  have en : E (a + 1) ≤ μ 82 4 := (Tk_le x3 ⟨p0, n1⟩ (Int32.le_of_lt pn)).2
  have i1 : (0 : Int) ≤ (P a).toInt := Int32.le_iff_toInt_le.mp p0
  have i2 := Int32.lt_iff_toInt_lt.mp pe
  have i3 : (E (a + 1)).toInt ≤ 1500 := Int32.le_iff_toInt_le.mp (Int32.le_trans en n1)
  have i4 := Int32.le_iff_toInt_le.mp en
  have e6s : μ 82 6 = E (a + 1) - P a := by rw [← h6, h5]; exact (by grind : ∀ x y : Int32, y = x + y - x) _ _
  have ti : (E (a + 1) - P a).toInt = (E (a + 1)).toInt - (P a).toInt := by rw [Int32.toInt_sub, Int.bmod_def]; omega
  have t6 : (E (a + 1) - P a).toInt ≤ 6 := Int32.le_iff_toInt_le.mp e6
  have s0 : 0 ≤ E (a + 1) - P a := Int32.le_iff_toInt_le.mpr (by rw [ti]; show (0 : Int) ≤ _; omega)
  have sn := z_nat s0
  have pn' := z_nat p0
  have all : ∀ i : Nat, i < (E (a + 1) - P a).toNatClampNeg → bt (μ 84) (μ 82 4) (P a + Int32.ofNat i) = μ 84 ((P a).toNatClampNeg + i) ∧ 1 ≤ μ 84 ((P a).toNatClampNeg + i) ∧ μ 84 ((P a).toNatClampNeg + i) ≤ 127 := by
    intro i hi
    obtain ⟨z1, z2, z3⟩ := zo_add (i := i) p0 (by omega)
    have wi := wt.2.1 (P a + Int32.ofNat i) (Int32.le_iff_toInt_le.mpr (by omega)) (Int32.lt_iff_toInt_lt.mpr (by omega))
    have r := wi.2
    unfold bt at r ⊢
    rw [if_pos wi.1, z1] at r ⊢
    have ra := br (P a + Int32.ofNat i) z2 wi.1
    rw [z1] at ra
    generalize μ 84 ((P a).toNatClampNeg + i) = x at r ra ⊢
    have lo : 48 ≤ (x &&& 255) := by
      rcases r with r | r
      · exact Int32.le_trans (by decide) r.1
      · exact r.1
    have hi2 : (x &&& 255) ≤ 122 := by
      rcases r with r | r
      · exact r.2
      · exact Int32.le_trans r.2 (by decide)
    have ex := z_raw ra.1 ra.2 lo hi2
    refine ⟨ex, ?_, ra.2⟩
    rw [ex] at lo
    exact Int32.le_trans (by decide) lo
  refine ⟨(E (a + 1) - P a).toNatClampNeg, by omega, by omega, ?_, ?_, ?_, ?_⟩
  · rw [e6s, zo_mk s0]
  · rw [h5]; exact ⟨p0, by omega⟩
  · rw [h5]; exact fun i hi => (all i hi).2
  · rw [ew, pkw_pkf, h5]
    exact pkf_congr _ fun i hi => (all i hi).1
theorem mkd.name {k : Int32} {w : Int64} {a b : Int32} (h : mkd k w a b) : a = 2 ↔ k = 3 := by
  rcases h with ⟨h1, h2⟩ | ⟨h1, h2⟩ | ⟨h1, h2, h3, h4⟩ | ⟨h1, h2⟩ | ⟨h1, h2, h3, h4⟩ | ⟨h1, h2, h3⟩ | ⟨h1, h2, h3⟩ | ⟨h1, h2, h3⟩
  all_goals first | (rw [h1, h2]; decide) | skip
  · rw [h3]; exact ⟨fun q => absurd q (by decide), fun q => by rw [q] at h1; exact absurd h1 (by decide)⟩
  · rw [h2]; exact ⟨fun q => absurd q (by decide), fun q => by rw [q] at h1; exact absurd h1 (by decide)⟩
theorem mkd.num {k : Int32} {w : Int64} {a b : Int32} (h : mkd k w a b) : a = 3 ↔ k = 2 := by
  rcases h with ⟨h1, h2⟩ | ⟨h1, h2⟩ | ⟨h1, h2, h3, h4⟩ | ⟨h1, h2⟩ | ⟨h1, h2, h3, h4⟩ | ⟨h1, h2, h3⟩ | ⟨h1, h2, h3⟩ | ⟨h1, h2, h3⟩
  all_goals first | (rw [h1, h2]; decide) | skip
  · rw [h3]; exact ⟨fun q => absurd q (by decide), fun q => by rw [q] at h1; exact absurd h1 (by decide)⟩
  · rw [h2]; exact ⟨fun q => absurd q (by decide), fun q => by rw [q] at h1; exact absurd h1 (by decide)⟩
theorem mkd.fin {k : Int32} {w : Int64} {a b : Int32} (h : mkd k w a b) : a = 0 ↔ k = 0 := by
  rcases h with ⟨h1, h2⟩ | ⟨h1, h2⟩ | ⟨h1, h2, h3, h4⟩ | ⟨h1, h2⟩ | ⟨h1, h2, h3, h4⟩ | ⟨h1, h2, h3⟩ | ⟨h1, h2, h3⟩ | ⟨h1, h2, h3⟩
  · grind
  · grind
  · clear h3; grind
  · grind
  · grind
  · grind
  · grind
  · grind
theorem mkd.val {k : Int32} {w : Int64} {a b : Int32} (h : mkd k w a b) (e : k = 2) : w.toInt32 = b ∧ 0 ≤ b ∧ b ≤ 7 := by
  subst e
  rcases h with ⟨h1, h2⟩ | ⟨h1, h2⟩ | ⟨h1, h2, h3, h4⟩ | ⟨h1, h2⟩ | ⟨h1, h2, h3, h4⟩ | ⟨h1, h2, h3⟩ | ⟨h1, h2, h3⟩ | ⟨h1, h2, h3⟩
  · exact absurd h1 (by decide)
  · exact absurd h1 (by decide)
  · rw [h3]; exact ⟨Int32.toInt32_toInt64 _, h4⟩
  all_goals exact absurd h1 (by decide)
abbrev isSc (c : Int32) : Prop := isSg c
theorem mkd.sign {k : Int32} {w : Int64} {a b : Int32} (h : mkd k w a b) {c : Int32} (hc : isSg c) : (a = 4 ∧ b = c) ↔ k = c := by
  rcases h with ⟨h1, h2⟩ | ⟨h1, h2⟩ | ⟨h1, h2, h3, h4⟩ | ⟨h1, h2⟩ | ⟨h1, h2, h3, h4⟩ | ⟨h1, h2, h3⟩ | ⟨h1, h2, h3⟩ | ⟨h1, h2, h3⟩
  · rw [h1, h2]; exact ⟨fun q => absurd q.1 (by decide), fun q => by rw [← q] at hc; exact absurd hc (by decide)⟩
  · rw [h1, h2]; exact ⟨fun q => absurd q.1 (by decide), fun q => by rw [← q] at hc; exact absurd hc (by decide)⟩
  · rw [h1, h2]; exact ⟨fun q => absurd q.1 (by decide), fun q => by rw [← q] at hc; exact absurd hc (by decide)⟩
  · rw [h1, h2]; exact ⟨fun q => absurd q.1 (by decide), fun q => by rw [← q] at hc; exact absurd hc (by decide)⟩
  · rw [h3]; exact ⟨fun q => absurd q.1 (by decide), fun q => by rw [← q] at hc; grind⟩
  · rw [h1, h3]; exact ⟨fun q => by rw [← q.2] at hc; exact absurd hc (by decide), fun q => by rw [← q] at hc; exact absurd hc (by decide)⟩
  · rw [h1, h3]; exact ⟨fun q => by rw [← q.2] at hc; exact absurd hc (by decide), fun q => by rw [← q] at hc; exact absurd hc (by decide)⟩
  · rw [h2, h3]; exact ⟨fun q => q.2, fun q => ⟨rfl, q⟩⟩
theorem mkd.word {k : Int32} {w : Int64} {a b : Int32} (h : mkd k w a b) {c : Int32} (hc : 1 ≤ c ∧ c ≤ 15) : (a = 5 ∧ b = c) ↔ k = c + 299 := by
  rcases h with ⟨h1, h2⟩ | ⟨h1, h2⟩ | ⟨h1, h2, h3, h4⟩ | ⟨h1, h2⟩ | ⟨h1, h2, h3, h4⟩ | ⟨h1, h2, h3⟩ | ⟨h1, h2, h3⟩ | ⟨h1, h2, h3⟩
  · grind
  · grind
  · clear h3; grind
  · grind
  · grind
  · grind
  · grind
  · grind
theorem mkd.test {k : Int32} {w : Int64} {a b : Int32} (h : mkd k w a b) : (a = 4 ∧ (b = 1000 ∨ b = 1001 ∨ b = 60 ∨ b = 62)) ↔ (k = 256 ∨ k = 257 ∨ k = 60 ∨ k = 62) := by
  rcases h with ⟨h1, h2⟩ | ⟨h1, h2⟩ | ⟨h1, h2, h3, h4⟩ | ⟨h1, h2⟩ | ⟨h1, h2, h3, h4⟩ | ⟨h1, h2, h3⟩ | ⟨h1, h2, h3⟩ | ⟨h1, h2, h3⟩
  · grind
  · grind
  · clear h3; grind
  · grind
  · grind
  · grind
  · grind
  · grind
theorem mkd.bad {k : Int32} {w : Int64} {a b : Int32} (h : mkd k w a b) : a = 1 ↔ k = 1 := by
  rcases h with ⟨h1, h2⟩ | ⟨h1, h2⟩ | ⟨h1, h2, h3, h4⟩ | ⟨h1, h2⟩ | ⟨h1, h2, h3, h4⟩ | ⟨h1, h2, h3⟩ | ⟨h1, h2, h3⟩ | ⟨h1, h2, h3⟩
  · grind
  · grind
  · clear h3; grind
  · grind
  · grind
  · grind
  · grind
  · grind
theorem p_M_isSign {μ : zS} {c k : Int32} {w : Int64} (h : mkd k w (μ 82 7) (μ 82 8)) (hc : isSg c) : zp (zf_M_isSign μ c) (fun r => (r = 0 ∧ k ≠ c) ∨ (r = 1 ∧ k = c)) := by
  have q := h.sign hc
  unfold zf_M_isSign
  refine zp_ite (fun d => zp_some (Or.inl ⟨rfl, fun e => d (q.mpr e).1⟩)) fun d => zp_ite (fun e => zp_some (Or.inl ⟨rfl, fun x => e (q.mpr x).2⟩)) fun e => zp_some (Or.inr ⟨rfl, q.mp ⟨Classical.not_not.mp d, Classical.not_not.mp e⟩⟩)
theorem p_M_isWord {μ : zS} {c k : Int32} {w : Int64} (h : mkd k w (μ 82 7) (μ 82 8)) (hc : 1 ≤ c ∧ c ≤ 15) : zp (zf_M_isWord μ c) (fun r => (r = 0 ∧ k ≠ c + 299) ∨ (r = 1 ∧ k = c + 299)) := by
  have q := h.word hc
  unfold zf_M_isWord
  refine zp_ite (fun d => zp_some (Or.inl ⟨rfl, fun e => d (q.mpr e).1⟩)) fun d => zp_ite (fun e => zp_some (Or.inl ⟨rfl, fun x => e (q.mpr x).2⟩)) fun e => zp_some (Or.inr ⟨rfl, q.mp ⟨Classical.not_not.mp d, Classical.not_not.mp e⟩⟩)
def XFl (ρ : zS) (p : Int32) : Prop := ρ 17 6 ≠ 0 ∧ ρ 17 7 = p
def MFl (μ : zS) (p : Int32) : Prop := μ 82 9 ≠ 0 ∧ μ 82 11 = p
theorem p_X_fail {ρ : zS} {k : Int32} (hk : k ≠ 0) : zp (zf_Reader_failHere ρ k) (fun r => r.1 = 0 ∧ XFl r.2 (ρ 25 8)) := by
  unfold zf_Reader_failHere zb_Reader_failHere_17
  refine zp_ite (fun _ => zp_some ⟨rfl, ?_, ?_⟩) fun _ => zp_some ⟨rfl, ?_, ?_⟩ <;> dsimp only <;> rw [zx_up_same]
  · rw [zu_ne (by decide), zx_up_same, zu_eq]; exact hk
  · rw [zu_eq]
  · rw [zu_ne (by decide), zx_up_same, zu_eq]; decide
  · rw [zu_eq]
theorem p_M_fail {μ : zS} {k : Int32} (h9 : μ 82 9 = 0) : zp (zf_M_fail μ k) (fun ν => MFl ν (μ 82 5)) := by
  unfold zf_M_fail
  refine zp_ite (fun c => absurd h9 c) fun _ => zp_some ⟨?_, ?_⟩ <;> rw [zx_up_same]
  · rw [zu_ne (by decide), zx_up_same, zu_ne (by decide), zx_up_same, zu_eq]; decide
  · rw [zu_eq]
theorem p_M_cannot {μ : zS} (h9 : μ 82 9 = 0) : zp (zf_M_cannot μ) (fun ν => MFl ν (μ 82 5)) := by
  unfold zf_M_cannot zb_M_cannot_14
  exact zp_ite (fun _ => zp_bind (zp_mono (p_M_fail h9) fun r hr => zp_some hr)) fun _ => zp_bind (zp_mono (p_M_fail h9) fun r hr => zp_some hr)
def bs (s : Nat) : Nat := if s = 0 then 0 else if s = 1 then 6 else 10
def cap (s : Nat) : Nat := if s = 0 then 6 else 4
def NSX (c : Nat → Nat) (ws : Nat → Nat → Int64) (nv : Nat) (wv : Nat → Int64) (ρ : zS) (τ : zT) : Prop :=
  (∀ s, s < 3 → c s ≤ cap s ∧ ρ 4 s = Int32.ofNat (c s)) ∧ ρ 18 3 = Int32.ofNat (c 0 + c 1 + c 2) ∧
  (∀ i, i < c 0 + c 1 + c 2 → ∃ s k, s < 3 ∧ k < c s ∧ ρ 20 i = Int32.ofNat s ∧ ρ 21 i = Int32.ofNat k ∧ τ 19 i = ws s k) ∧
  (∀ s k, s < 3 → k < c s → ∃ i, i < c 0 + c 1 + c 2 ∧ ρ 20 i = Int32.ofNat s ∧ ρ 21 i = Int32.ofNat k ∧ τ 19 i = ws s k) ∧
  (∀ i j, i < c 0 + c 1 + c 2 → j < c 0 + c 1 + c 2 → τ 19 i = τ 19 j → i = j) ∧
  nv ≤ 3 ∧ ρ 18 5 = Int32.ofNat nv ∧ (∀ k, k < nv → τ 22 k = wv k)
def NSM (c : Nat → Nat) (ws : Nat → Nat → Int64) (nv : Nat) (wv : Nat → Int64) (μ : zS) : Prop :=
  (∀ s, s < 3 → c s ≤ cap s ∧ μ 82 (15 + s) = Int32.ofNat (c s) ∧ ∀ k, k < c s → Nm μ (bs s + k) (ws s k)) ∧
  nv ≤ 3 ∧ μ 82 18 = Int32.ofNat nv ∧ (∀ k, k < nv → Nm μ (14 + k) (wv k))
def LK (n : Nat) (wo : Nat → Int64) (w : Int64) (r : Int32) : Prop := (r = -1 ∧ ∀ k, k < n → wo k ≠ w) ∨ (∃ k, k < n ∧ r = Int32.ofNat k ∧ wo k = w ∧ ∀ j, j < n → wo j = w → j = k)
theorem zo_ne {k : Nat} (h : k ≤ 100000) : Int32.ofNat k ≠ -1 := by
  intro e
  have a := zo_ti h
  rw [e] at a
  have : (-1 : Int32).toInt = -1 := rfl
  omega
theorem zo_inj {k j : Nat} (h : k ≤ 100000) (g : j ≤ 100000) (e : Int32.ofNat k = Int32.ofNat j) : k = j := by
  have a := zo_n h
  rw [e, zo_n g] at a
  exact a.symm
theorem zo_lt {k j : Nat} (h : k ≤ 100000) (g : j ≤ 100000) : Int32.ofNat k < Int32.ofNat j ↔ k < j := by
  rw [Int32.lt_iff_toInt_lt, zo_ti h, zo_ti g]; omega
theorem zo_le {k j : Nat} (h : k ≤ 100000) (g : j ≤ 100000) : Int32.ofNat k ≤ Int32.ofNat j ↔ k ≤ j := by
  rw [Int32.le_iff_toInt_le, zo_ti h, zo_ti g]; omega
theorem LK.one {n : Nat} {wo : Nat → Int64} {w : Int64} {r q : Int32} (h : LK n wo w r) (g : LK n wo w q) : r = q := by
  rcases h with ⟨h1, h2⟩ | ⟨k, h1, h2, h3, h4⟩
  · rcases g with ⟨g1, _⟩ | ⟨k, g1, g2, g3, g4⟩
    · rw [h1, g1]
    · exact absurd g3 (h2 k g1)
  · rcases g with ⟨g1, g2⟩ | ⟨j, g1, g2, g3, g4⟩
    · exact absurd h3 (g2 k h1)
    · rw [h2, g2, h4 j g1 g3]
theorem LK.ex {n : Nat} {wo : Nat → Int64} (hi : ∀ j k, j < n → k < n → wo j = wo k → j = k) (w : Int64) : ∃ r, LK n wo w r := by
  by_cases h : ∃ k, k < n ∧ wo k = w
  · obtain ⟨k, h1, h2⟩ := h
    exact ⟨_, Or.inr ⟨k, h1, rfl, h2, fun j hj e => hi j k hj h1 (e.trans h2.symm)⟩⟩
  · exact ⟨-1, Or.inl ⟨rfl, fun k hk e => h ⟨k, hk, e⟩⟩⟩
theorem cap_le (s : Nat) : cap s ≤ 6 := by unfold cap; split <;> omega
theorem NSX.z {c : Nat → Nat} {ws : Nat → Nat → Int64} {nv : Nat} {wv : Nat → Int64} {ρ : zS} {τ : zT} (h : NSX c ws nv wv ρ τ) : c 0 + c 1 + c 2 ≤ 14 := by
  have a := (h.1 0 (by decide)).1
  have b := (h.1 1 (by decide)).1
  have d := (h.1 2 (by decide)).1
  unfold cap at a b d
  simp at a b d
  omega
theorem NSX.inj {c : Nat → Nat} {ws : Nat → Nat → Int64} {nv : Nat} {wv : Nat → Int64} {ρ : zS} {τ : zT} (h : NSX c ws nv wv ρ τ) {s s' k k' : Nat} (hs : s < 3) (hk : k < c s) (hs' : s' < 3) (hk' : k' < c s') (e : ws s k = ws s' k') : s = s' ∧ k = k' := by
  have z := h.z
  have m1 := (h.1 s hs).1
  have m2 := (h.1 s' hs').1
  have m3 := cap_le s
  have m4 := cap_le s'
  obtain ⟨i, i1, i2, i3, i4⟩ := h.2.2.2.1 s k hs hk
  obtain ⟨j, j1, j2, j3, j4⟩ := h.2.2.2.1 s' k' hs' hk'
  have ij := h.2.2.2.2.1 i j i1 j1 (by rw [i4, j4, e])
  subst ij
  exact ⟨zo_inj (by omega) (by omega) (i2.symm.trans j2), zo_inj (by omega) (by omega) (i3.symm.trans j3)⟩
theorem p_X_sortOf {c : Nat → Nat} {ws : Nat → Nat → Int64} {nv : Nat} {wv : Nat → Int64} {ρ : zS} {τ : zT} {N : Nat} {w : Int64} (h : NSX c ws nv wv ρ τ) : zp (zf_Names_sortOf N ρ τ w) (fun r => (r = -1 ∧ ∀ s k, s < 3 → k < c s → ws s k ≠ w) ∨ (∃ s k, s < 3 ∧ k < c s ∧ ws s k = w ∧ r = Int32.ofNat s)) := by
  have z := h.z
  unfold zf_Names_sortOf
  have go : ∀ (n i : Nat), i ≤ c 0 + c 1 + c 2 → (∀ j, j < i → τ 19 j ≠ w) → zp (zb_Names_sortOf_2 N n ρ τ w (Int32.ofNat i)) (fun r => (r = -1 ∧ ∀ s k, s < 3 → k < c s → ws s k ≠ w) ∨ (∃ s k, s < 3 ∧ k < c s ∧ ws s k = w ∧ r = Int32.ofNat s)) := by
    intro n
    induction n with
    | zero => intro _ _ _; exact zp_none
    | succ n ih =>
      intro i hi hj
      rw [zb_Names_sortOf_2, h.2.1]
      have no : c 0 + c 1 + c 2 ≤ i → (∀ s k, s < 3 → k < c s → ws s k ≠ w) := by
        intro q s k hs hk e
        obtain ⟨j, j1, j2, j3, j4⟩ := h.2.2.2.1 s k hs hk
        exact hj j (by omega) (j4.trans e)
      refine zp_ite (fun q => zp_some (Or.inl ⟨rfl, no ?_⟩)) fun q => zp_ite (fun q2 => zp_some (Or.inl ⟨rfl, no ?_⟩)) fun q2 => zp_chk fun _ => ?_
      · exact (zo_le (by omega) (by omega)).mp q
      · have := (zo_le (k := 14) (j := i) (by omega) (by omega)).mp q2
        omega
      · have lt : i < c 0 + c 1 + c 2 := by
          rw [zo_le (by omega) (by omega)] at q
          omega
        rw [zo_n (by omega)]
        refine zp_ite (fun d => ?_) fun d => zp_chk fun _ => zp_some (Or.inr ?_)
        · rw [zo_1 (by omega)]
          refine ih (i + 1) (by omega) fun j hj' => ?_
          by_cases e : j = i
          · rw [e]; exact d
          · exact hj j (by omega)
        · obtain ⟨s, k, a1, a2, a3, a4, a5⟩ := h.2.2.1 i lt
          exact ⟨s, k, a1, a2, a5.symm.trans (Classical.not_not.mp d), a3⟩
  exact go N 0 (Nat.zero_le _) fun j hj => absurd hj (Nat.not_lt_zero _)
theorem p_X_numberOf {c : Nat → Nat} {ws : Nat → Nat → Int64} {nv : Nat} {wv : Nat → Int64} {ρ : zS} {τ : zT} {N s : Nat} {w : Int64} (h : NSX c ws nv wv ρ τ) (hs : s < 3) : zp (zf_Names_numberOf N ρ τ w (Int32.ofNat s)) (fun r => LK (c s) (ws s) w r) := by
  have z := h.z
  unfold zf_Names_numberOf
  have go : ∀ (n i : Nat), i ≤ c 0 + c 1 + c 2 → (∀ j, j < i → ¬ (τ 19 j = w ∧ ρ 20 j = Int32.ofNat s)) → zp (zb_Names_numberOf_3 N n ρ τ w (Int32.ofNat s) (Int32.ofNat i)) (fun r => LK (c s) (ws s) w r) := by
    intro n
    induction n with
    | zero => intro _ _ _; exact zp_none
    | succ n ih =>
      intro i hi hj
      rw [zb_Names_numberOf_3, h.2.1]
      have no : c 0 + c 1 + c 2 ≤ i → (∀ k, k < c s → ws s k ≠ w) := by
        intro q k hk e
        obtain ⟨j, j1, j2, j3, j4⟩ := h.2.2.2.1 s k hs hk
        exact hj j (by omega) ⟨j4.trans e, j2⟩
      refine zp_ite (fun q => zp_some (Or.inl ⟨rfl, no ?_⟩)) fun q => zp_ite (fun q2 => zp_some (Or.inl ⟨rfl, no ?_⟩)) fun q2 => zp_chk fun _ => ?_
      · exact (zo_le (by omega) (by omega)).mp q
      · have := (zo_le (k := 14) (j := i) (by omega) (by omega)).mp q2
        omega
      · have lt : i < c 0 + c 1 + c 2 := by
          rw [zo_le (by omega) (by omega)] at q
          omega
        rw [zo_n (by omega)]
        have on : ¬ (τ 19 i = w ∧ ρ 20 i = Int32.ofNat s) → zp (zb_Names_numberOf_50 (zb_Names_numberOf_3 N n) N ρ τ w (Int32.ofNat s) (Int32.ofNat i)) (fun r => LK (c s) (ws s) w r) := by
          intro d
          unfold zb_Names_numberOf_50
          rw [zo_1 (by omega)]
          refine ih (i + 1) (by omega) fun j hj' => ?_
          by_cases e : j = i
          · rw [e]; exact d
          · exact hj j (by omega)
        refine zp_ite (fun d => on fun x => d x.1) fun d => zp_chk fun _ => zp_ite (fun d2 => on fun x => d2 x.2) fun d2 => zp_chk fun _ => zp_some (Or.inr ?_)
        obtain ⟨s', k, a1, a2, a3, a4, a5⟩ := h.2.2.1 i lt
        have es : s' = s := zo_inj (by omega) (by omega) (a3.symm.trans (Classical.not_not.mp d2))
        subst es
        have ew := a5.symm.trans (Classical.not_not.mp d)
        exact ⟨k, a2, a4, ew, fun j hj' e => (h.inj hs hj' hs a2 (e.trans ew.symm)).2⟩
  exact go N 0 (Nat.zero_le _) fun j hj => absurd hj (Nat.not_lt_zero _)
def LD (nv : Nat) (wv : Nat → Int64) : Prop := ∀ j k, j < nv → k < nv → wv j = wv k → j = k
theorem p_X_localOf {c : Nat → Nat} {ws : Nat → Nat → Int64} {nv : Nat} {wv : Nat → Int64} {ρ : zS} {τ : zT} {N : Nat} {w : Int64} (h : NSX c ws nv wv ρ τ) (ld : LD nv wv) : zp (zf_Names_localOf N ρ τ w) (fun r => LK nv wv w r) := by
  obtain ⟨_, _, _, _, _, n3, h5, hv⟩ := h
  unfold zf_Names_localOf
  have go : ∀ (n i : Nat), i ≤ nv → (∀ j, j < i → wv j ≠ w) → zp (zb_Names_localOf_2 N n ρ τ w (Int32.ofNat i)) (fun r => LK nv wv w r) := by
    intro n
    induction n with
    | zero => intro _ _ _; exact zp_none
    | succ n ih =>
      intro i hi hj
      rw [zb_Names_localOf_2, h5]
      refine zp_ite (fun q => zp_some (Or.inl ⟨rfl, fun k hk => hj k ?_⟩)) fun q => zp_ite (fun q2 => zp_some (Or.inl ⟨rfl, fun k hk => hj k ?_⟩)) fun q2 => zp_chk fun _ => ?_
      · have := (zo_le (by omega) (by omega)).mp q
        omega
      · have := (zo_le (k := 3) (j := i) (by omega) (by omega)).mp q2
        omega
      · have lt : i < nv := by
          rw [zo_le (by omega) (by omega)] at q
          omega
        rw [zo_n (by omega), hv i lt]
        refine zp_ite (fun d => ?_) fun d => zp_some (Or.inr ⟨i, lt, rfl, Classical.not_not.mp d, fun j hj' e => ld j i hj' lt (e.trans (Classical.not_not.mp d).symm)⟩)
        rw [zo_1 (by omega)]
        refine ih (i + 1) (by omega) fun j hj' => ?_
        by_cases e : j = i
        · rw [e]; exact d
        · exact hj j (by omega)
  exact go N 0 (Nat.zero_le _) fun j hj => absurd hj (Nat.not_lt_zero _)
def SrtO (f l t r : Int32) : Prop := (r = -1 ∧ f = -1 ∧ l = -1 ∧ t = -1) ∨ (r = 0 ∧ f ≠ -1 ∧ l = -1 ∧ t = -1) ∨ (r = 1 ∧ f = -1 ∧ l ≠ -1 ∧ t = -1) ∨ (r = 2 ∧ f = -1 ∧ l = -1 ∧ t ≠ -1)
def TldO (f l t r : Int32) : Prop := (r = 0 ∧ f = -1 ∧ l = -1 ∧ t = -1) ∨ (r = 1 ∧ ¬ (f = -1 ∧ l = -1 ∧ t = -1))
def LX (ρ : zS) (τ : zT) (w : Int64) (f l t v : Int32) : Prop := (∀ N, zp (zf_Names_sortOf N ρ τ w) (SrtO f l t)) ∧ (∀ N, zp (zf_Names_numberOf N ρ τ w 0) (fun r => r = f)) ∧ (∀ N, zp (zf_Names_numberOf N ρ τ w 1) (fun r => r = l)) ∧ (∀ N, zp (zf_Names_numberOf N ρ τ w 2) (fun r => r = t)) ∧ (∀ N, zp (zf_Names_localOf N ρ τ w) (fun r => r = v))
def LM (μ : zS) (f l t v : Int32) : Prop := (∀ N, zp (zf_M_fieldHere N μ) (fun r => r = f)) ∧ (∀ N, zp (zf_M_lockHere N μ) (fun r => r = l)) ∧ (∀ N, zp (zf_M_threadHere N μ) (fun r => r = t)) ∧ (∀ N, zp (zf_M_isTold N μ) (TldO f l t)) ∧ (∀ N, zp (zf_M_find N μ 14 (μ 82 18)) (fun r => r = v))
def LQ (c : Nat → Nat) (ws : Nat → Nat → Int64) (nv : Nat) (wv : Nat → Int64) (w : Int64) (f l t v : Int32) : Prop := LK (c 0) (ws 0) w f ∧ LK (c 1) (ws 1) w l ∧ LK (c 2) (ws 2) w t ∧ LK nv wv w v
theorem LK.no {n : Nat} {wo : Nat → Int64} {w : Int64} {r : Int32} (h : LK n wo w r) (hn : n ≤ 100000) : r = -1 ↔ ∀ k, k < n → wo k ≠ w := by
  rcases h with ⟨h1, h2⟩ | ⟨k, h1, h2, h3, h4⟩
  · exact ⟨fun _ => h2, fun _ => h1⟩
  · exact ⟨fun q => absurd (h2.symm.trans q) (zo_ne (by omega)), fun q => absurd h3 (q k h1)⟩
theorem LK.yes {n : Nat} {wo : Nat → Int64} {w : Int64} {r : Int32} {k : Nat} (h : LK n wo w r) (hk : k < n) (e : wo k = w) : r = Int32.ofNat k := by
  rcases h with ⟨h1, h2⟩ | ⟨j, h1, h2, h3, h4⟩
  · exact absurd e (h2 k hk)
  · rw [h2, h4 k hk e]
theorem LK.rng {n : Nat} {wo : Nat → Int64} {w : Int64} {r : Int32} (h : LK n wo w r) (hn : n ≤ 100000) : r = -1 ∨ (0 ≤ r ∧ r < Int32.ofNat n) := by
  rcases h with ⟨h1, h2⟩ | ⟨j, h1, h2, h3, h4⟩
  · exact Or.inl h1
  · rw [h2]
    exact Or.inr ⟨(zo_le (k := 0) (by omega) (by omega)).mpr (Nat.zero_le _), (zo_lt (by omega) (by omega)).mpr h1⟩
theorem LQ.ex {c : Nat → Nat} {ws : Nat → Nat → Int64} {nv : Nat} {wv : Nat → Int64} {ρ : zS} {τ : zT} (h : NSX c ws nv wv ρ τ) (ld : LD nv wv) (w : Int64) : ∃ f l t v, LQ c ws nv wv w f l t v := by
  obtain ⟨f, hf⟩ := LK.ex (n := c 0) (wo := ws 0) (fun j k hj hk e => (h.inj (by decide) hj (by decide) hk e).2) w
  obtain ⟨l, hl⟩ := LK.ex (n := c 1) (wo := ws 1) (fun j k hj hk e => (h.inj (by decide) hj (by decide) hk e).2) w
  obtain ⟨t, ht⟩ := LK.ex (n := c 2) (wo := ws 2) (fun j k hj hk e => (h.inj (by decide) hj (by decide) hk e).2) w
  obtain ⟨v, hv⟩ := LK.ex (n := nv) (wo := wv) ld w
  exact ⟨f, l, t, v, hf, hl, ht, hv⟩
theorem LX.mk {c : Nat → Nat} {ws : Nat → Nat → Int64} {nv : Nat} {wv : Nat → Int64} {ρ : zS} {τ : zT} {w : Int64} {f l t v : Int32} (h : NSX c ws nv wv ρ τ) (ld : LD nv wv) (q : LQ c ws nv wv w f l t v) : LX ρ τ w f l t v := by
  obtain ⟨qf, ql, qt, qv⟩ := q
  have z := h.z
  have z0 : c 0 ≤ 100000 := by omega
  have z1 : c 1 ≤ 100000 := by omega
  have z2 : c 2 ≤ 100000 := by omega
  refine ⟨fun N => zp_mono (p_X_sortOf h) fun r hr => ?_, fun N => zp_mono (p_X_numberOf (s := 0) h (by decide)) fun r hr => hr.one qf, fun N => zp_mono (p_X_numberOf (s := 1) h (by decide)) fun r hr => hr.one ql, fun N => zp_mono (p_X_numberOf (s := 2) h (by decide)) fun r hr => hr.one qt, fun N => zp_mono (p_X_localOf h ld) fun r hr => hr.one qv⟩
  rcases hr with ⟨e, no⟩ | ⟨s, k, hs, hk, e, er⟩
  · exact Or.inl ⟨e, (qf.no z0).mpr fun k hk => no 0 k (by decide) hk, (ql.no z1).mpr fun k hk => no 1 k (by decide) hk, (qt.no z2).mpr fun k hk => no 2 k (by decide) hk⟩
  · have oth : ∀ s', s' < 3 → s' ≠ s → ∀ k', k' < c s' → ws s' k' ≠ w := fun s' hs' ne k' hk' e' => ne (h.inj hs' hk' hs hk (e'.trans e.symm)).1
    match s, hs, hk, e, er, oth with
    | 0, hs, hk, e, er, oth => exact Or.inr (Or.inl ⟨er, fun x => (qf.no z0).mp x k hk e, (ql.no z1).mpr (oth 1 (by decide) (by decide)), (qt.no z2).mpr (oth 2 (by decide) (by decide))⟩)
    | 1, hs, hk, e, er, oth => exact Or.inr (Or.inr (Or.inl ⟨er, (qf.no z0).mpr (oth 0 (by decide) (by decide)), fun x => (ql.no z1).mp x k hk e, (qt.no z2).mpr (oth 2 (by decide) (by decide))⟩))
    | 2, hs, hk, e, er, oth => exact Or.inr (Or.inr (Or.inr ⟨er, (qf.no z0).mpr (oth 0 (by decide) (by decide)), (ql.no z1).mpr (oth 1 (by decide) (by decide)), fun x => (qt.no z2).mp x k hk e⟩))
theorem p_M_findK {N : Nat} {μ : zS} {fr n : Nat} {wo : Nat → Int64} {w : Int64} {r0 : Int32} (hf : fr + n ≤ 200) (nm : ∀ k, k < n → Nm μ (fr + k) (wo k)) (cur : Cur μ w) (q : LK n wo w r0) : zp (zf_M_find N μ (Int32.ofNat fr) (Int32.ofNat n)) (fun r => r = r0) := by
  refine zp_mono (p_M_find hf nm cur) fun r hr => ?_
  rcases hr with ⟨e, no⟩ | ⟨k, hk, e, ew, _⟩
  · exact e.trans ((q.no (by omega)).mpr no).symm
  · exact e.trans (q.yes hk ew).symm
theorem LM.mk {c : Nat → Nat} {ws : Nat → Nat → Int64} {nv : Nat} {wv : Nat → Int64} {μ : zS} {w : Int64} {f l t v : Int32} (h : NSM c ws nv wv μ) (cur : Cur μ w) (q : LQ c ws nv wv w f l t v) : LM μ f l t v := by
  obtain ⟨qf, ql, qt, qv⟩ := q
  obtain ⟨hs, n3, h18, hv⟩ := h
  have a0 := hs 0 (by decide)
  have a1 := hs 1 (by decide)
  have a2 := hs 2 (by decide)
  have c0 := cap_le 0
  have c1 := cap_le 1
  have c2 := cap_le 2
  have F : ∀ N, zp (zf_M_fieldHere N μ) (fun r => r = f) := fun N => by
    unfold zf_M_fieldHere
    refine zp_bind (zp_mono (o := zf_M_find N μ 0 (μ 82 15)) ?_ fun r hr => zp_some hr)
    rw [show μ 82 15 = Int32.ofNat (c 0) from a0.2.1]
    exact p_M_findK (fr := 0) (by omega) (fun k hk => a0.2.2 k hk) cur qf
  have L : ∀ N, zp (zf_M_lockHere N μ) (fun r => r = l) := fun N => by
    unfold zf_M_lockHere
    refine zp_bind (zp_mono (o := zf_M_find N μ 6 (μ 82 16)) ?_ fun r hr => zp_some hr)
    rw [show μ 82 16 = Int32.ofNat (c 1) from a1.2.1]
    exact p_M_findK (fr := 6) (by omega) (fun k hk => a1.2.2 k hk) cur ql
  have T : ∀ N, zp (zf_M_threadHere N μ) (fun r => r = t) := fun N => by
    unfold zf_M_threadHere
    refine zp_bind (zp_mono (o := zf_M_find N μ 10 (μ 82 17)) ?_ fun r hr => zp_some hr)
    rw [show μ 82 17 = Int32.ofNat (c 2) from a2.2.1]
    exact p_M_findK (fr := 10) (by omega) (fun k hk => a2.2.2 k hk) cur qt
  refine ⟨F, L, T, fun N => ?_, fun N => ?_⟩
  · unfold zf_M_isTold zb_M_isTold_24
    refine zp_bind (zp_mono (F N) fun r1 e1 => zp_ite (fun d => zp_some (Or.inr ⟨rfl, fun x => d (e1.trans x.1)⟩)) fun d => zp_bind (zp_mono (L N) fun r2 e2 => zp_ite (fun d2 => zp_some (Or.inr ⟨rfl, fun x => d2 (e2.trans x.2.1)⟩)) fun d2 => zp_bind (zp_mono (T N) fun r3 e3 => zp_ite (fun d3 => zp_some (Or.inl ⟨rfl, e1.symm.trans (Classical.not_not.mp d), e2.symm.trans (Classical.not_not.mp d2), e3.symm.trans d3⟩)) fun d3 => zp_some (Or.inr ⟨rfl, fun x => d3 (e3.trans x.2.2)⟩))))
  · rw [h18]
    exact p_M_findK (fr := 14) (by omega) hv cur qv
theorem LQ.dj {c : Nat → Nat} {ws : Nat → Nat → Int64} {nv : Nat} {wv : Nat → Int64} {ρ : zS} {τ : zT} {w : Int64} {f l t v : Int32} (h : NSX c ws nv wv ρ τ) (q : LQ c ws nv wv w f l t v) : (f = -1 ∨ (0 ≤ f ∧ f < 6 ∧ l = -1 ∧ t = -1)) ∧ (l = -1 ∨ (0 ≤ l ∧ l < 4 ∧ f = -1 ∧ t = -1)) ∧ (t = -1 ∨ (0 ≤ t ∧ t < 4 ∧ f = -1 ∧ l = -1)) ∧ (v = -1 ∨ (0 ≤ v ∧ v < 3)) := by
  obtain ⟨qf, ql, qt, qv⟩ := q
  have z := h.z
  have n3 := h.2.2.2.2.2.1
  have k0 : c 0 ≤ 6 := (h.1 0 (by decide)).1
  have k1 : c 1 ≤ 4 := (h.1 1 (by decide)).1
  have k2 : c 2 ≤ 4 := (h.1 2 (by decide)).1
  have oth : ∀ {s k s' : Nat} {r : Int32}, s < 3 → k < c s → ws s k = w → s' < 3 → s' ≠ s → LK (c s') (ws s') w r → r = -1 := by
    intro s k s' r hs hk e hs' ne q
    have : c s' ≤ 100000 := by have := (h.1 s' hs').1; have := cap_le s'; omega
    exact (q.no this).mpr fun k' hk' e' => ne (h.inj hs' hk' hs hk (e'.trans e.symm)).1
  have lo : ∀ k : Nat, k ≤ 100 → (0 : Int32) ≤ Int32.ofNat k := fun k hk => (zo_le (k := 0) (by omega) (by omega)).mpr (Nat.zero_le _)
  refine ⟨?_, ?_, ?_, ?_⟩
  · rcases qf with ⟨e, _⟩ | ⟨k, hk, e, ew, _⟩
    · exact Or.inl e
    · rw [e]
      exact Or.inr ⟨lo k (by omega), (zo_lt (j := 6) (by omega) (by omega)).mpr (by omega), oth (s := 0) (by decide) hk ew (s' := 1) (by decide) (by decide) ql, oth (s := 0) (by decide) hk ew (s' := 2) (by decide) (by decide) qt⟩
  · rcases ql with ⟨e, _⟩ | ⟨k, hk, e, ew, _⟩
    · exact Or.inl e
    · rw [e]
      exact Or.inr ⟨lo k (by omega), (zo_lt (j := 4) (by omega) (by omega)).mpr (by omega), oth (s := 1) (by decide) hk ew (s' := 0) (by decide) (by decide) qf, oth (s := 1) (by decide) hk ew (s' := 2) (by decide) (by decide) qt⟩
  · rcases qt with ⟨e, _⟩ | ⟨k, hk, e, ew, _⟩
    · exact Or.inl e
    · rw [e]
      exact Or.inr ⟨lo k (by omega), (zo_lt (j := 4) (by omega) (by omega)).mpr (by omega), oth (s := 2) (by decide) hk ew (s' := 0) (by decide) (by decide) qf, oth (s := 2) (by decide) hk ew (s' := 1) (by decide) (by decide) ql⟩
  · rcases qv with ⟨e, _⟩ | ⟨k, hk, e, ew, _⟩
    · exact Or.inl e
    · rw [e]
      exact Or.inr ⟨lo k (by omega), (zo_lt (j := 3) (by omega) (by omega)).mpr (by omega)⟩
theorem zk_byte256 : ∀ k : Fin 256, let x : Int32 := Int32.ofNat k.val - 128; zJ_byte x = x := by decide +kernel
theorem zk_byte {x : Int32} (h0 : -128 ≤ x) (h1 : x ≤ 127) : zJ_byte x = x := by
  have t0 : (-128 : Int) ≤ x.toInt := Int32.le_iff_toInt_le.mp h0
  have t1 : x.toInt ≤ 127 := Int32.le_iff_toInt_le.mp h1
  have e : x = Int32.ofNat (x.toInt + 128).toNat - 128 := by
    apply Int32.toInt_inj.mp
    have k : (128 : Int32).toInt = 128 := rfl
    rw [Int32.toInt_sub, Int32.toInt_ofNat_of_lt (by omega), k, Int.bmod_def]
    omega
  have q := zk_byte256 ⟨(x.toInt + 128).toNat, by omega⟩
  dsimp only at q
  rw [← e] at q
  exact q
def MC0 (pl : Nat) (μ ν : zS) : Prop := (∀ q, q ≠ 85 → q ≠ 86 → ν q = μ q) ∧ (∀ p, p ≠ pl → ν 86 p = μ 86 p) ∧ (∀ j, (j < 6 * pl ∨ 6 * pl + 6 ≤ j) → ν 85 j = μ 85 j)
theorem p_M_call {N : Nat} {μ : zS} {pl : Nat} {w : Int64} (hp : pl ≤ 1000) (cur : Cur μ w) : zp (zf_M_call N μ (Int32.ofNat pl)) (fun ν => MC0 pl μ ν ∧ Nm ν pl w) := by
  obtain ⟨s, s1, s6, e6, p5, rng, ew⟩ := cur
  have go : ∀ (n i : Nat) (ν : zS), i ≤ s → (∀ q, q ≠ 85 → ν q = (zx_up μ 86 pl (Int32.ofNat s)) q) → (∀ j, (j < 6 * pl ∨ 6 * pl + i ≤ j) → ν 85 j = μ 85 j) → (∀ k, k < i → ν 85 (6 * pl + k) = μ 84 ((μ 82 5).toNatClampNeg + k)) → zp (zb_M_call_12 N n ν (Int32.ofNat pl) (Int32.ofNat i)) (fun ν => MC0 pl μ ν ∧ Nm ν pl w) := by
    intro n
    induction n with
    | zero => intro _ _ _ _ _ _; exact zp_none
    | succ n ih =>
      intro i ν hi h1 h2 h3
      rw [zb_M_call_12]
      have e82 : ν 82 = μ 82 := by rw [h1 82 (by decide), zu_other (by decide)]
      have e84 : ν 84 = μ 84 := by rw [h1 84 (by decide), zu_other (by decide)]
      rw [e82, e84, e6]
      refine zp_ite (fun d => zp_some ?_) fun d => zp_chk fun _ => zp_chk fun _ => ?_
      · have si : s = i := by have := (zo_le (by omega) (by omega)).mp d; omega
        subst si
        refine ⟨⟨fun q a b => by rw [h1 q a, zu_other b], fun p hp' => by rw [h1 86 (by decide), zx_up_same, zu_ne hp'], fun j hj => h2 j (by omega)⟩, s, s1, s6, by rw [h1 86 (by decide), zx_up_same, zu_eq], fun k hk => by rw [h3 k hk]; exact rng k hk, ?_⟩
        rw [ew]
        exact pkf_congr s fun k hk => (h3 k hk).symm
      · have lt : i < s := by
          rw [zo_le (by omega) (by omega)] at d
          omega
        rw [zo_six (by omega) (by omega), (zo_add p5.1 (by omega)).1, zo_1 (by omega), zk_byte (Int32.le_trans (by decide) (rng i lt).1) (rng i lt).2]
        refine ih (i + 1) _ (by omega) (fun q hq => by rw [zu_other hq]; exact h1 q hq) (fun j hj => ?_) (fun k hk => ?_)
        · rw [zx_up_same, zu_ne (by omega)]; exact h2 j (by omega)
        · rw [zx_up_same]
          by_cases e : k = i
          · rw [e, zu_eq]
          · rw [zu_ne (by omega)]; exact h3 k (by omega)
  unfold zf_M_call
  refine zp_chk fun _ => ?_
  rw [zo_n (by omega), e6]
  exact go N 0 _ (Nat.zero_le _) (fun q hq => rfl) (fun j _ => by rw [zu_other (by decide)]) (fun k hk => absurd hk (Nat.not_lt_zero _))
def RXF (ρ ρ' : zS) : Prop := (∀ q, q ≠ 17 → q ≠ 18 → q ≠ 25 → ρ' q = ρ q) ∧ (∀ i, i ≠ 5 → ρ' 18 i = ρ 18 i)
def RTF (τ τ' : zT) : Prop := ∀ q, q ≠ 22 → q ≠ 25 → τ' q = τ q
def RMF (μ ν : zS) : Prop := (∀ q, q ≠ 82 → q ≠ 85 → q ≠ 86 → ν q = μ q) ∧ (∀ i, i ≠ 5 → i ≠ 6 → i ≠ 7 → i ≠ 8 → i ≠ 9 → i ≠ 10 → i ≠ 11 → i ≠ 18 → ν 82 i = μ 82 i) ∧ (∀ p, (p < 14 ∨ 17 ≤ p) → ν 86 p = μ 86 p) ∧ (∀ j, (j < 84 ∨ 102 ≤ j) → ν 85 j = μ 85 j)
theorem RXF.rfl' {ρ : zS} : RXF ρ ρ := ⟨fun _ _ _ _ => rfl, fun _ _ => rfl⟩
theorem RTF.rfl' {τ : zT} : RTF τ τ := fun _ _ _ => rfl
theorem RMF.rfl' {μ : zS} : RMF μ μ := ⟨fun _ _ _ _ => rfl, fun _ _ _ _ _ _ _ _ _ => rfl, fun _ _ => rfl, fun _ _ => rfl⟩
theorem RXF.tr {a b c : zS} (h : RXF a b) (g : RXF b c) : RXF a c := ⟨fun q x y z => (g.1 q x y z).trans (h.1 q x y z), fun i x => (g.2 i x).trans (h.2 i x)⟩
theorem RTF.tr {a b c : zT} (h : RTF a b) (g : RTF b c) : RTF a c := fun q x y => (g q x y).trans (h q x y)
theorem RMF.tr {a b c : zS} (h : RMF a b) (g : RMF b c) : RMF a c := ⟨fun q x y z => (g.1 q x y z).trans (h.1 q x y z), fun i a1 a2 a3 a4 a5 a6 a7 a8 => (g.2.1 i a1 a2 a3 a4 a5 a6 a7 a8).trans (h.2.1 i a1 a2 a3 a4 a5 a6 a7 a8), fun p x => (g.2.2.1 p x).trans (h.2.2.1 p x), fun p x => (g.2.2.2 p x).trans (h.2.2.2 p x)⟩
theorem XA0.xf {ρ ρ' : zS} (h : XA0 ρ ρ') : RXF ρ ρ' := ⟨fun q _ _ c => h.1 q c, fun i _ => by rw [h.1 18 (by decide)]⟩
theorem NX0.mf {μ ν : zS} (h : NX0 μ ν) : RMF μ ν := ⟨fun q a _ _ => h.1 q a, fun i a b c d _ _ _ _ => h.2 i a b c d, fun p _ => by rw [h.1 86 (by decide)], fun p _ => by rw [h.1 85 (by decide)]⟩
abbrev TS : Type := (Nat → Int32) × (Nat → Int32) × (Nat → Int64) × (Nat → Int32) × Nat
def SX (T : TS) (a : Nat) (ρ : zS) (τ : zT) : Prop := XAt T.1 T.2.1 T.2.2.1 T.2.2.2.2 ρ τ a ∧ ρ 17 6 = 0
def SM (T : TS) (a : Nat) (μ : zS) : Prop := TB (μ 84) (μ 82 4) T.1 T.2.1 T.2.2.1 T.2.2.2.1 T.2.2.2.2 ∧ BR μ ∧ MAt T.1 T.2.1 T.2.2.1 T.2.2.2.1 T.2.2.2.2 μ a ∧ μ 82 9 = 0
theorem SX.k {T : TS} {a : Nat} {ρ : zS} {τ : zT} (h : SX T a ρ τ) : ρ 25 7 = T.1 a := h.1.2.2.2.2.2.1
theorem SX.p {T : TS} {a : Nat} {ρ : zS} {τ : zT} (h : SX T a ρ τ) : ρ 25 8 = T.2.1 a := h.1.2.2.2.2.2.2.1
theorem SX.w {T : TS} {a : Nat} {ρ : zS} {τ : zT} (h : SX T a ρ τ) : τ 25 9 = T.2.2.1 a := h.1.2.2.2.2.2.2.2.1
theorem SM.p {T : TS} {a : Nat} {μ : zS} (h : SM T a μ) : μ 82 5 = T.2.1 a := h.2.2.1.1
theorem SM.d {T : TS} {a : Nat} {μ : zS} (h : SM T a μ) : mkd (T.1 a) (T.2.2.1 a) (μ 82 7) (μ 82 8) := h.2.2.1.2.2.1
theorem SM.cur {T : TS} {a : Nat} {μ : zS} (h : SM T a μ) (e : T.1 a = 3) : Cur μ (T.2.2.1 a) := h.2.2.1.cur h.1 h.2.1 e
theorem SX.of {T : TS} {a : Nat} {ρ ρ' : zS} {τ τ' : zT} (h : SX T a ρ τ) (e17 : ρ' 17 = ρ 17) (e25 : ρ' 25 = ρ 25) (e26 : ρ' 26 = ρ 26) (e27 : ρ' 27 = ρ 27) (t25 : τ' 25 = τ 25) (t28 : τ' 28 = τ 28) : SX T a ρ' τ' := by
  unfold SX XAt at *
  rw [e17, e25, e26, e27, t25, t28]
  exact h
theorem SM.of {T : TS} {a : Nat} {μ ν : zS} (h : SM T a μ) (e84 : ν 84 = μ 84) (e : ∀ i, (4 ≤ i ∧ i ≤ 9) → ν 82 i = μ 82 i) : SM T a ν := by
  unfold SM MAt BR at *
  rw [e84, e 4 (by omega), e 5 (by omega), e 6 (by omega), e 7 (by omega), e 8 (by omega), e 9 (by omega)]
  exact h
theorem SX.adv {T : TS} {a : Nat} {ρ : zS} {τ : zT} {b : Nat → Int32} {n : Int32} (tb : TB b n T.1 T.2.1 T.2.2.1 T.2.2.2.1 T.2.2.2.2) (h : SX T a ρ τ) (hk : ¬ T.1 a = 0 ∧ ¬ T.1 a = 1) : zp (zf_Tokens_advance ρ τ) (fun r => SX T (a + 1) r.1 r.2 ∧ XA0 ρ r.1 ∧ (∀ q, q ≠ 25 → r.2 q = τ q)) := by
  refine zp_mono (h.1.adv tb hk) ?_
  rintro r ⟨x, f, g⟩
  exact ⟨⟨x, by rw [f.1 17 (by decide)]; exact h.2⟩, f, g⟩
theorem SM.nx {T : TS} {a N : Nat} {μ : zS} (h : SM T a μ) (hk : ¬ T.1 a = 0 ∧ ¬ T.1 a = 1) : zp (zf_M_next N μ) (fun ν => SM T (a + 1) ν ∧ NX0 μ ν) := by
  obtain ⟨tb, br, mt, h9⟩ := h
  refine zp_mono (mt.nx tb hk) ?_
  rintro ν ⟨x, f⟩
  have e84 := f.1 84 (by decide)
  refine ⟨⟨?_, ?_, x, ?_⟩, f⟩
  · rw [e84, f.2 4 (by decide) (by decide) (by decide) (by decide)]; exact tb
  · unfold BR; rw [e84, f.2 4 (by decide) (by decide) (by decide) (by decide)]; exact br
  · rw [f.2 9 (by decide) (by decide) (by decide) (by decide)]; exact h9
theorem NSX.of {c : Nat → Nat} {ws : Nat → Nat → Int64} {nv : Nat} {wv : Nat → Int64} {ρ ρ' : zS} {τ τ' : zT} (h : NSX c ws nv wv ρ τ) (e4 : ∀ s, s < 3 → ρ' 4 s = ρ 4 s) (e18 : ρ' 18 = ρ 18) (e20 : ρ' 20 = ρ 20) (e21 : ρ' 21 = ρ 21) (t19 : τ' 19 = τ 19) (t22 : τ' 22 = τ 22) : NSX c ws nv wv ρ' τ' := by
  unfold NSX at *
  rw [e18, e20, e21, t19, t22]
  exact ⟨fun s hs => ⟨(h.1 s hs).1, (e4 s hs).trans (h.1 s hs).2⟩, h.2⟩
theorem bs_le {s k : Nat} {c : Nat → Nat} (hs : s < 3) (hc : c s ≤ cap s) (hk : k < c s) : bs s + k < 14 := by
  unfold bs
  unfold cap at hc
  split <;> rename_i q
  · rw [if_pos q] at hc; omega
  · rw [if_neg q] at hc
    split <;> omega
theorem NSM.of {c : Nat → Nat} {ws : Nat → Nat → Int64} {nv : Nat} {wv : Nat → Int64} {μ ν : zS} (h : NSM c ws nv wv μ) (e : ∀ i, (15 ≤ i ∧ i ≤ 18) → ν 82 i = μ 82 i) (e86 : ∀ p, p < 17 → ν 86 p = μ 86 p) (e85 : ∀ j, j < 102 → ν 85 j = μ 85 j) : NSM c ws nv wv ν := by
  obtain ⟨a, b, d, g⟩ := h
  refine ⟨fun s hs => ?_, b, (e 18 (by omega)).trans d, fun k hk => (g k hk).of (fun i hi => e85 _ (by omega)) (e86 _ (by omega))⟩
  obtain ⟨a1, a2, a3⟩ := a s hs
  refine ⟨a1, (e (15 + s) (by omega)).trans a2, fun k hk => ?_⟩
  have := bs_le hs a1 hk
  exact (a3 k hk).of (fun i hi => e85 _ (by omega)) (e86 _ (by omega))
def wAdd (nv : Nat) (wv : Nat → Int64) (w : Int64) : Nat → Int64 := fun k => if k = nv then w else wv k
theorem wAdd_at {nv : Nat} {wv : Nat → Int64} {w : Int64} : wAdd nv wv w nv = w := if_pos rfl
theorem wAdd_ne {nv k : Nat} {wv : Nat → Int64} {w : Int64} (h : k ≠ nv) : wAdd nv wv w k = wv k := if_neg h
theorem LD.add {nv : Nat} {wv : Nat → Int64} {w : Int64} (ld : LD nv wv) (h : LK nv wv w (-1)) (hn : nv ≤ 100) : LD (nv + 1) (wAdd nv wv w) := by
  have no := (h.no (by omega)).mp rfl
  intro j k hj hk e
  by_cases q : j = nv
  · by_cases q2 : k = nv
    · rw [q, q2]
    · rw [q, wAdd_at, wAdd_ne q2] at e
      exact absurd e.symm (no k (by omega))
  · by_cases q2 : k = nv
    · rw [q2, wAdd_at, wAdd_ne q] at e
      exact absurd e (no j (by omega))
    · rw [wAdd_ne q, wAdd_ne q2] at e
      exact ld j k (by omega) (by omega) e
theorem NSX.lcl {c : Nat → Nat} {ws : Nat → Nat → Int64} {nv : Nat} {wv : Nat → Int64} {ρ : zS} {τ : zT} {w : Int64} (h : NSX c ws nv wv ρ τ) (hn : nv < 3) : NSX c ws (nv + 1) (wAdd nv wv w) (zx_up ρ 18 5 (Int32.ofNat (nv + 1))) (zx_up τ 22 nv w) := by
  unfold NSX at *
  rw [zu_other (q := 18) (p := 4) (by decide), zu_other (q := 18) (p := 20) (by decide), zu_other (q := 18) (p := 21) (by decide), zx_up_same, zu_ne (by decide), zu_eq, zt_other (q := 22) (p := 19) (by decide)]
  refine ⟨h.1, h.2.1, h.2.2.1, h.2.2.2.1, h.2.2.2.2.1, by omega, rfl, fun k hk => ?_⟩
  by_cases q : k = nv
  · rw [q, zt_at, wAdd_at]
  · rw [zt_ne q, wAdd_ne q]; exact h.2.2.2.2.2.2.2 k (by omega)
theorem NSM.lcl {c : Nat → Nat} {ws : Nat → Nat → Int64} {nv : Nat} {wv : Nat → Int64} {μ ν : zS} {w : Int64} (h : NSM c ws nv wv μ) (hn : nv < 3) (f : MC0 (14 + nv) μ ν) (nm : Nm ν (14 + nv) w) : NSM c ws (nv + 1) (wAdd nv wv w) (zx_up ν 82 18 (Int32.ofNat (nv + 1))) := by
  have e85 : (zx_up ν 82 18 (Int32.ofNat (nv + 1))) 85 = ν 85 := zu_other (by decide)
  have e86 : (zx_up ν 82 18 (Int32.ofNat (nv + 1))) 86 = ν 86 := zu_other (by decide)
  obtain ⟨a, b, d, g⟩ := h
  refine ⟨fun s hs => ?_, by omega, by rw [zx_up_same, zu_eq], fun k hk => ?_⟩
  · obtain ⟨a1, a2, a3⟩ := a s hs
    refine ⟨a1, by rw [zx_up_same, zu_ne (by omega), f.1 82 (by decide) (by decide)]; exact a2, fun k hk => ?_⟩
    have := bs_le hs a1 hk
    exact (a3 k hk).of (fun i hi => by rw [e85, f.2.2 _ (by omega)]) (by rw [e86, f.2.1 _ (by omega)])
  · by_cases q : k = nv
    · rw [q, wAdd_at]
      exact nm.of (fun i hi => by rw [e85]) (by rw [e86])
    · rw [wAdd_ne q]
      exact (g k (by omega)).of (fun i hi => by rw [e85, f.2.2 _ (by omega)]) (by rw [e86, f.2.1 _ (by omega)])
theorem p_X_makeLocal {c : Nat → Nat} {ws : Nat → Nat → Int64} {nv : Nat} {wv : Nat → Int64} {ρ : zS} {τ : zT} {N : Nat} {w : Int64} {v : Int32} (h : NSX c ws nv wv ρ τ) (ld : LD nv wv) (q : LK nv wv w v) : zp (zf_Names_makeLocal N ρ τ w) (fun r => (v ≠ -1 ∧ r = (v, ρ, τ)) ∨ (v = -1 ∧ nv < 3 ∧ r = (Int32.ofNat nv, zx_up ρ 18 5 (Int32.ofNat (nv + 1)), zx_up τ 22 nv w)) ∨ (v = -1 ∧ nv = 3 ∧ r = (-1, ρ, τ))) := by
  have n3 := h.2.2.2.2.2.1
  have h5 := h.2.2.2.2.2.2.1
  unfold zf_Names_makeLocal
  refine zp_bind (zp_mono (p_X_localOf h ld) fun r1 h1 => ?_)
  have e := h1.one q
  subst e
  rw [h5]
  refine zp_ite (fun d => zp_some (Or.inl ⟨d, rfl⟩)) fun d => zp_ite (fun d2 => ?_) fun d2 => zp_ite (fun d3 => zp_chk fun _ => zp_some ?_) fun d3 => zp_some ?_
  · exfalso
    have := (zo_lt (k := nv) (j := 0) (by omega) (by omega)).mp d2
    omega
  · have n : nv < 3 := (zo_lt (k := nv) (j := 3) (by omega) (by omega)).mp d3
    refine Or.inr (Or.inl ⟨Classical.not_not.mp d, n, ?_⟩)
    rw [zo_n (by omega), zo_1 (by omega)]
    have : Int32.ofNat (nv + 1) - 1 = Int32.ofNat nv := by rw [← zo_1 (by omega)]; exact (by grind : ∀ x : Int32, x + 1 - 1 = x) _
    rw [this]
  · have d' := Classical.not_not.mp d
    refine Or.inr (Or.inr ⟨d', ?_, by rw [d']⟩)
    have : ¬ nv < 3 := fun x => d3 ((zo_lt (k := nv) (j := 3) (by omega) (by omega)).mpr x)
    omega
theorem p_M_local {c : Nat → Nat} {ws : Nat → Nat → Int64} {nv : Nat} {wv : Nat → Int64} {μ : zS} {N : Nat} {w : Int64} {v x : Int32} (h : NSM c ws nv wv μ) (h9 : μ 82 9 = 0) (cur : Cur μ w) (q : LK nv wv w v) : zp (zf_M_local N μ x) (fun s => (v ≠ -1 ∧ s = (v, μ)) ∨ (v = -1 ∧ x = 0 ∧ MFl s.2 (μ 82 5)) ∨ (v = -1 ∧ x ≠ 0 ∧ nv = 3 ∧ MFl s.2 (μ 82 5)) ∨ (v = -1 ∧ x ≠ 0 ∧ nv < 3 ∧ s.1 = Int32.ofNat nv ∧ NSM c ws (nv + 1) (wAdd nv wv w) s.2 ∧ RMF μ s.2 ∧ (∀ q, q ≠ 82 → q ≠ 85 → q ≠ 86 → s.2 q = μ q) ∧ (∀ i, i ≠ 18 → s.2 82 i = μ 82 i))) := by
  obtain ⟨hs, n3, h18, hv⟩ := h
  unfold zf_M_local
  rw [h18]
  refine zp_bind (zp_mono (p_M_findK (fr := 14) (n := nv) (by omega) hv cur q) fun r1 e => ?_)
  subst e
  refine zp_ite (fun d => zp_ite (fun d2 => zp_ite (fun d3 => ?_) fun d3 => zp_bind (zp_mono (p_M_fail h9) fun r hr => zp_some (Or.inr (Or.inr (Or.inl ⟨d, d2, ?_, hr⟩))))) fun d2 => zp_bind (zp_mono (p_M_fail h9) fun r hr => zp_some (Or.inr (Or.inl ⟨d, Classical.not_not.mp d2, hr⟩)))) fun d => zp_some (Or.inl ⟨d, rfl⟩)
  · have n : nv < 3 := by
      have : nv ≠ 3 := fun x => d3 (by rw [x]; rfl)
      omega
    have e14 : 14 + Int32.ofNat nv = Int32.ofNat (14 + nv) := by
      have k14 : (14 : Int32) = Int32.ofNat 14 := rfl
      apply Int32.toInt_inj.mp
      have a := zo_ti (m := nv) (by omega)
      have b := zo_ti (m := 14) (by omega)
      rw [k14, z_ti_add (by omega) (by omega), a, b, zo_ti (by omega)]
      omega
    rw [e14]
    refine zp_bind (zp_mono (p_M_call (by omega) cur) ?_)
    rintro ν ⟨f, nm⟩
    have e18 : ν 82 18 = Int32.ofNat nv := by rw [f.1 82 (by decide) (by decide)]; exact h18
    rw [e18, zo_1 (by omega)]
    refine zp_some (Or.inr (Or.inr (Or.inr ⟨d, d2, n, ?_, NSM.lcl ⟨hs, n3, h18, hv⟩ n f nm, ⟨?_, ?_, ?_, ?_⟩, ?_, ?_⟩)))
    · dsimp only
      rw [← zo_1 (by omega)]; exact (by grind : ∀ x : Int32, x + 1 - 1 = x) _
    · intro p a1 a2 a3
      dsimp only
      rw [zu_other a1, f.1 p a2 a3]
    · intro i _ _ _ _ _ _ _ a8
      dsimp only
      rw [zx_up_same, zu_ne a8, f.1 82 (by decide) (by decide)]
    · intro p hp
      dsimp only
      rw [zu_other (by decide), f.2.1 p (by omega)]
    · intro j hj
      dsimp only
      rw [zu_other (by decide), f.2.2 j (by omega)]
    · intro p a1 a2 a3
      dsimp only
      rw [zu_other a1, f.1 p a2 a3]
    · intro i a8
      dsimp only
      rw [zx_up_same, zu_ne a8, f.1 82 (by decide) (by decide)]
  · have d3' := Classical.not_not.mp d3
    exact zo_inj (by omega) (by omega) d3'
def DL (c : Nat → Nat) (ws : Nat → Nat → Int64) (nv : Nat) (wv : Nat → Int64) : Prop := ∀ s k j, s < 3 → k < c s → j < nv → ws s k ≠ wv j
def NNX (c : Nat → Nat) (ws : Nat → Nat → Int64) (nv : Nat) (wv : Nat → Int64) (ρ : zS) (τ : zT) : Prop := NSX c ws nv wv ρ τ ∧ LD nv wv ∧ DL c ws nv wv
def VAL (T : TS) (a : Nat) (c : Nat → Nat) (ws : Nat → Nat → Int64) (nv : Nat) (wv : Nat → Int64) (ρ : zS) (τ : zT) (Mf : zS → Option (Int32 × zS)) (r : Int32 × zS × zT) : Prop :=
  (r.1 = -1 ∧ XFl r.2.1 (T.2.1 a) ∧ ∀ μ, SM T a μ → NSM c ws nv wv μ → zp (Mf μ) (fun s => MFl s.2 (T.2.1 a))) ∨
  (r.1 ≠ -1 ∧ ∃ nv' wv', SX T (a + 1) r.2.1 r.2.2 ∧ NNX c ws nv' wv' r.2.1 r.2.2 ∧ RXF ρ r.2.1 ∧ RTF τ r.2.2 ∧ ∀ μ, SM T a μ → NSM c ws nv wv μ → zp (Mf μ) (fun s => s.1 = r.1 ∧ SM T (a + 1) s.2 ∧ NSM c ws nv' wv' s.2 ∧ RMF μ s.2))
theorem p_X_wrong {N : Nat} {ρ : zS} {τ : zT} : zp (zf_Reader_failAtWrongToken N ρ τ) (fun r => XFl r (ρ 25 8)) := by
  have A : ∀ k : Int32, k ≠ 0 → zp (zb_Reader_failAtWrongToken_63 N ρ τ k) (fun r => XFl r (ρ 25 8)) := fun k hk => by
    unfold zb_Reader_failAtWrongToken_63
    exact zp_bind (zp_mono (p_X_fail hk) fun r hr => zp_some hr.2)
  have B : ∀ s, zp (zb_Reader_failAtWrongToken_52 N ρ τ s) (fun r => XFl r (ρ 25 8)) := fun s => by
    unfold zb_Reader_failAtWrongToken_52
    exact zp_ite (fun _ => A 2 (by decide)) fun _ => A 3 (by decide)
  unfold zf_Reader_failAtWrongToken zb_Reader_failAtWrongToken_51
  exact zp_ite (fun _ => B 0) fun _ => zp_bind fun r _ => zp_ite (fun _ => B 0) fun _ => zp_bind fun r _ => zp_ite (fun _ => B 0) fun _ => B 1
theorem NNX.of {c : Nat → Nat} {ws : Nat → Nat → Int64} {nv : Nat} {wv : Nat → Int64} {ρ ρ' : zS} {τ τ' : zT} (h : NNX c ws nv wv ρ τ) (e4 : ∀ s, s < 3 → ρ' 4 s = ρ 4 s) (e18 : ρ' 18 = ρ 18) (e20 : ρ' 20 = ρ 20) (e21 : ρ' 21 = ρ 21) (t19 : τ' 19 = τ 19) (t22 : τ' 22 = τ 22) : NNX c ws nv wv ρ' τ' := ⟨h.1.of e4 e18 e20 e21 t19 t22, h.2⟩
theorem NNX.adv {c : Nat → Nat} {ws : Nat → Nat → Int64} {nv : Nat} {wv : Nat → Int64} {ρ ρ' : zS} {τ τ' : zT} (h : NNX c ws nv wv ρ τ) (f : XA0 ρ ρ') (g : ∀ q, q ≠ 25 → τ' q = τ q) : NNX c ws nv wv ρ' τ' :=
  h.of (fun s _ => by rw [f.1 4 (by decide)]) (f.1 18 (by decide)) (f.1 20 (by decide)) (f.1 21 (by decide)) (g 19 (by decide)) (g 22 (by decide))
theorem NSM.nx {c : Nat → Nat} {ws : Nat → Nat → Int64} {nv : Nat} {wv : Nat → Int64} {μ ν : zS} (h : NSM c ws nv wv μ) (f : NX0 μ ν) : NSM c ws nv wv ν :=
  h.of (fun i hi => f.2 i (by omega) (by omega) (by omega) (by omega)) (fun p _ => by rw [f.1 86 (by decide)]) (fun p _ => by rw [f.1 85 (by decide)])
theorem gRTF {τ τ' : zT} (g : ∀ q, q ≠ 25 → τ' q = τ q) : RTF τ τ' := fun q _ b => g q b
theorem X.tk {T : TS} {a : Nat} {c : Nat → Nat} {ws : Nat → Nat → Int64} {nv : Nat} {wv : Nat → Int64} {ρ : zS} {τ : zT} {b : Nat → Int32} {n : Int32} (tb : TB b n T.1 T.2.1 T.2.2.1 T.2.2.2.1 T.2.2.2.2) (h : SX T a ρ τ) (ns : NNX c ws nv wv ρ τ) (hk : ¬ T.1 a = 0 ∧ ¬ T.1 a = 1) : zp (zf_Tokens_advance ρ τ) (fun r => SX T (a + 1) r.1 r.2 ∧ NNX c ws nv wv r.1 r.2 ∧ XA0 ρ r.1 ∧ RXF ρ r.1 ∧ RTF τ r.2 ∧ (∀ q, q ≠ 25 → r.2 q = τ q)) := by
  refine zp_mono (h.adv tb hk) ?_
  rintro r ⟨x, f, g⟩
  exact ⟨x, ns.adv f g, f, f.xf, gRTF g, g⟩
theorem M.tk {T : TS} {a N : Nat} {c : Nat → Nat} {ws : Nat → Nat → Int64} {nv : Nat} {wv : Nat → Int64} {μ : zS} (h : SM T a μ) (ns : NSM c ws nv wv μ) (hk : ¬ T.1 a = 0 ∧ ¬ T.1 a = 1) : zp (zf_M_next N μ) (fun ν => SM T (a + 1) ν ∧ NSM c ws nv wv ν ∧ NX0 μ ν ∧ RMF μ ν) := by
  refine zp_mono (h.nx hk) ?_
  rintro r ⟨x, f⟩
  exact ⟨x, ns.nx f, f, f.mf⟩
theorem MFl.of {μ ν : zS} {p : Int32} (h : MFl μ p) (e : ν 82 = μ 82) : MFl ν p := by unfold MFl at *; rw [e]; exact h
theorem p_take {T : TS} {a : Nat} {c : Nat → Nat} {ws : Nat → Nat → Int64} {nv : Nat} {wv : Nat → Int64} {ρ : zS} {τ : zT} {b : Nat → Int32} {n x : Int32} (tb : TB b n T.1 T.2.1 T.2.2.1 T.2.2.2.1 T.2.2.2.2) (h : SX T a ρ τ) (ns : NNX c ws nv wv ρ τ) (hx : isSg x) : zp (zf_Reader_expect ρ τ x) (fun r => (r.1 = 0 ∧ T.1 a ≠ x ∧ XFl r.2.1 (T.2.1 a) ∧ ∀ N μ, SM T a μ → zp (zf_M_take N μ x) (fun s => MFl s (T.2.1 a))) ∨ (r.1 = 1 ∧ T.1 a = x ∧ SX T (a + 1) r.2.1 r.2.2 ∧ NNX c ws nv wv r.2.1 r.2.2 ∧ XA0 ρ r.2.1 ∧ (∀ q, q ≠ 25 → r.2.2 q = τ q) ∧ ∀ N μ, SM T a μ → zp (zf_M_take N μ x) (fun s => SM T (a + 1) s ∧ NX0 μ s))) := by
  unfold zf_Reader_expect
  rw [h.k]
  refine zp_ite (fun d => ?_) fun d => ?_
  · have hk : ¬ T.1 a = 0 ∧ ¬ T.1 a = 1 := by rw [d]; constructor <;> intro q <;> rw [q] at hx <;> exact absurd hx (by decide)
    refine zp_bind (zp_mono (X.tk tb h ns hk) ?_)
    rintro r ⟨r1, r2, r3, r4, r5, r6⟩
    refine zp_some (Or.inr ⟨rfl, d, r1, r2, r3, r6, fun N μ sm => ?_⟩)
    unfold zf_M_take
    refine zp_ite (fun _ => zp_bind (zp_mono (p_M_isSign sm.d hx) fun r hr => zp_ite (fun z => ?_) fun z => zp_bind (zp_mono (sm.nx hk) fun s hs => zp_some hs))) fun q => absurd sm.2.2.2 q
    rcases hr with hr | hr
    · exact absurd d hr.2
    · rw [hr.1] at z; exact absurd z (by decide)
  · refine zp_bind (zp_mono (p_X_fail (by decide)) ?_)
    rintro r ⟨r1, r2⟩
    rw [h.p] at r2
    refine zp_chk fun _ => zp_some (Or.inl ⟨r1, d, r2, fun N μ sm => ?_⟩)
    unfold zf_M_take
    refine zp_ite (fun _ => zp_bind (zp_mono (p_M_isSign sm.d hx) fun r hr => zp_ite (fun z => zp_bind (zp_mono (p_M_cannot sm.2.2.2) fun s hs => zp_some (by rw [← sm.p]; exact hs))) fun z => ?_)) fun q => absurd sm.2.2.2 q
    rcases hr with hr | hr
    · exact absurd hr.1 z
    · exact absurd hr.2 d
theorem p_locks {T : TS} {a N : Nat} {c : Nat → Nat} {ws : Nat → Nat → Int64} {nv : Nat} {wv : Nat → Int64} {ρ : zS} {τ : zT} {b : Nat → Int32} {n : Int32} (tb : TB b n T.1 T.2.1 T.2.2.1 T.2.2.2.1 T.2.2.2.2) (h : SX T a ρ τ) (ns : NNX c ws nv wv ρ τ) (N' : Nat) : zp (zf_Reader_takeLockName N ρ τ) (fun r => (r.1 = -1 ∨ (0 ≤ r.1 ∧ r.1 < 4)) ∧ VAL T a c ws nv wv ρ τ (fun μ => zf_M_lockNamed N' μ) r) := by
  obtain ⟨f, l, t, v, lq⟩ := LQ.ex ns.1 ns.2.1 (T.2.2.1 a)
  have lx := LX.mk ns.1 ns.2.1 lq
  have dj := lq.dj ns.1
  have go : ∀ x : Int32, (x = -1 ∨ (0 ≤ x ∧ x < 4)) → (x ≠ -1 → T.1 a = 3) → (∀ μ, SM T a μ → NSM c ws nv wv μ → x = -1 → zp (zf_M_lockNamed N' μ) (fun s => MFl s.2 (T.2.1 a))) → (∀ μ, SM T a μ → NSM c ws nv wv μ → x ≠ -1 → zp (zf_M_lockNamed N' μ) (fun s => s.1 = x ∧ SM T (a + 1) s.2 ∧ NSM c ws nv wv s.2 ∧ RMF μ s.2)) → zp (zb_Reader_takeLockName_30 N ρ τ x) (fun r => (r.1 = -1 ∨ (0 ≤ r.1 ∧ r.1 < 4)) ∧ VAL T a c ws nv wv ρ τ (fun μ => zf_M_lockNamed N' μ) r) := by
    intro x hx hx3 m1 m2
    unfold zb_Reader_takeLockName_30
    refine zp_ite (fun d => ?_) fun d => ?_
    · refine zp_bind (zp_mono p_X_wrong fun r hr => zp_some ?_)
      rw [h.p] at hr
      exact ⟨Or.inl rfl, Or.inl ⟨rfl, hr, fun μ sm nm => m1 μ sm nm d⟩⟩
    · have e3 := hx3 d
      refine zp_bind (zp_mono (X.tk tb h ns (by rw [e3]; decide)) ?_)
      rintro r ⟨r1, r2, r3, r4, r5, r6⟩
      exact zp_some ⟨hx, Or.inr ⟨d, nv, wv, r1, r2, r4, r5, fun μ sm nm => m2 μ sm nm d⟩⟩
  unfold zf_Reader_takeLockName
  rw [h.k, h.w]
  refine zp_ite (fun d => ?_) fun d => ?_
  · refine go (-1) (Or.inl rfl) (fun q => absurd rfl q) (fun μ sm nm _ => ?_) (fun μ sm nm q => absurd rfl q)
    have k2 : ¬ μ 82 7 = 2 := fun q => d (sm.d.name.mp q)
    unfold zf_M_lockNamed zb_M_lockNamed_25 zb_M_lockNamed_46 zb_M_lockNamed_63
    refine zp_ite (fun _ => zp_ite (fun _ => zp_ite (fun _ => zp_bind (zp_mono (p_M_cannot sm.2.2.2) fun s hs => ?_)) fun q => absurd k2 q) fun q => absurd k2 q) fun q => absurd sm.2.2.2 q
    rw [sm.p] at hs
    exact zp_ite (fun _ => zp_some hs) fun q => absurd (Classical.not_not.mp q) hs.1
  · have e3 := Classical.not_not.mp d
    refine zp_bind (zp_mono (lx.2.2.1 N) fun r hr => ?_)
    subst hr
    refine go r (dj.2.1.imp id fun q => ⟨q.1, q.2.1⟩) (fun _ => e3) (fun μ sm nm q => ?_) (fun μ sm nm q => ?_)
    · have lm := LM.mk nm (sm.cur e3) lq
      have k2 : μ 82 7 = 2 := sm.d.name.mpr e3
      unfold zf_M_lockNamed zb_M_lockNamed_25 zb_M_lockNamed_46 zb_M_lockNamed_53 zb_M_lockNamed_63
      refine zp_ite (fun _ => zp_ite (fun z => absurd k2 z) fun _ => zp_bind (zp_mono (lm.2.1 N') fun s hs => zp_ite (fun z => absurd k2 z) fun _ => zp_ite (fun z => absurd (hs.trans q) z) fun _ => zp_bind (zp_mono (lm.2.2.2.1 N') fun u hu => zp_ite (fun z => zp_ite (fun y => absurd (hs.trans q) y) fun _ => zp_bind (zp_mono (p_M_fail sm.2.2.2) fun s' hs' => ?_)) fun z => zp_bind (zp_mono (p_M_cannot sm.2.2.2) fun s' hs' => ?_)))) fun z => absurd sm.2.2.2 z
      · rw [sm.p] at hs'
        exact zp_ite (fun _ => zp_some hs') fun z => absurd (Classical.not_not.mp z) hs'.1
      · rw [sm.p] at hs'
        exact zp_ite (fun _ => zp_some hs') fun z => absurd (Classical.not_not.mp z) hs'.1
    · have lm := LM.mk nm (sm.cur e3) lq
      have k2 : μ 82 7 = 2 := sm.d.name.mpr e3
      unfold zf_M_lockNamed zb_M_lockNamed_25 zb_M_lockNamed_46 zb_M_lockNamed_53 zb_M_lockNamed_63
      refine zp_ite (fun _ => zp_ite (fun z => absurd k2 z) fun _ => zp_bind (zp_mono (lm.2.1 N') fun s hs => zp_ite (fun z => absurd k2 z) fun _ => zp_ite (fun _ => zp_ite (fun _ => zp_ite (fun z => absurd sm.2.2.2 z) fun _ => zp_bind (zp_mono (M.tk sm nm (by rw [e3]; decide)) ?_)) fun z => absurd (fun y => q (hs.symm.trans y)) z) fun z => absurd (fun y => q (hs.symm.trans y)) z)) fun z => absurd sm.2.2.2 z
      rintro ν ⟨n1, n2, n3, n4⟩
      exact zp_some ⟨hs, n1, n2, n4⟩
theorem DL.v {c : Nat → Nat} {ws : Nat → Nat → Int64} {nv : Nat} {wv : Nat → Int64} {w : Int64} {f l t v : Int32} (dl : DL c ws nv wv) (q : LQ c ws nv wv w f l t v) (hv : v ≠ -1) (hc : ∀ s, s < 3 → c s ≤ 100000) : f = -1 ∧ l = -1 ∧ t = -1 := by
  obtain ⟨qf, ql, qt, qv⟩ := q
  rcases qv with ⟨e, _⟩ | ⟨k, hk, e, ew, _⟩
  · exact absurd e hv
  · exact ⟨(qf.no (hc 0 (by decide))).mpr fun i hi x => dl 0 i k (by decide) hi hk (x.trans ew.symm), (ql.no (hc 1 (by decide))).mpr fun i hi x => dl 1 i k (by decide) hi hk (x.trans ew.symm), (qt.no (hc 2 (by decide))).mpr fun i hi x => dl 2 i k (by decide) hi hk (x.trans ew.symm)⟩
theorem DL.add {c : Nat → Nat} {ws : Nat → Nat → Int64} {nv : Nat} {wv : Nat → Int64} {w : Int64} {v : Int32} (dl : DL c ws nv wv) (q : LQ c ws nv wv w (-1) (-1) (-1) v) (hc : ∀ s, s < 3 → c s ≤ 100000) : DL c ws (nv + 1) (wAdd nv wv w) := by
  obtain ⟨qf, ql, qt, qv⟩ := q
  intro s k j hs hk hj e
  by_cases x : j = nv
  · rw [x, wAdd_at] at e
    match s, hs, hk, e with
    | 0, hs, hk, e => exact (qf.no (hc 0 hs)).mp rfl k hk e
    | 1, hs, hk, e => exact (ql.no (hc 1 hs)).mp rfl k hk e
    | 2, hs, hk, e => exact (qt.no (hc 2 hs)).mp rfl k hk e
  · rw [wAdd_ne x] at e
    exact dl s k j hs hk (by omega) e
theorem NSX.c {c : Nat → Nat} {ws : Nat → Nat → Int64} {nv : Nat} {wv : Nat → Int64} {ρ : zS} {τ : zT} (h : NSX c ws nv wv ρ τ) : ∀ s, s < 3 → c s ≤ 100000 := fun s hs => by
  have := (h.1 s hs).1
  have := cap_le s
  omega
theorem p_M_val53 {N : Nat} {μ : zS} {x p : Int32} (h : MFl μ p) : zp (zb_M_value_53 N μ x) (fun s => MFl s.2 p) := by
  unfold zb_M_value_53
  exact zp_ite (fun _ => zp_some h) fun q => absurd (Classical.not_not.mp q) h.1
theorem p_M_valno {T : TS} {a N : Nat} {μ : zS} {x : Int32} (sm : SM T a μ) (hn : ¬ T.1 a = 2) : zp (zb_M_value_41 N μ x) (fun s => MFl s.2 (T.2.1 a)) := by
  unfold zb_M_value_41
  refine zp_ite (fun q => absurd (sm.d.num.mp q) hn) fun _ => zp_bind (zp_mono (p_M_cannot sm.2.2.2) fun s hs => ?_)
  rw [sm.p] at hs
  exact p_M_val53 hs
theorem p_M_valyes {T : TS} {a N : Nat} {c : Nat → Nat} {ws : Nat → Nat → Int64} {nv : Nat} {wv : Nat → Int64} {μ : zS} {x : Int32} (sm : SM T a μ) (nm : NSM c ws nv wv μ) (hn : T.1 a = 2 ∨ T.1 a = 3) : zp (zb_M_value_53 N μ x) (fun s => s.1 = x ∧ SM T (a + 1) s.2 ∧ NSM c ws nv wv s.2 ∧ RMF μ s.2) := by
  unfold zb_M_value_53
  refine zp_ite (fun q => absurd sm.2.2.2 q) fun _ => zp_bind (zp_mono (M.tk sm nm (by rcases hn with e | e <;> rw [e] <;> decide)) ?_)
  rintro ν ⟨n1, n2, n3, n4⟩
  exact zp_some ⟨rfl, n1, n2, n4⟩
theorem z8ne {v : Int32} (h : v = -1 ∨ (0 ≤ v ∧ v < 3)) (hv : v ≠ -1) : 8 + v ≠ -1 := by grind
theorem ite_ne {c : Prop} [Decidable c] {x y : Int32} (hx : x ≠ 2) (hy : y ≠ 2) : (if c then x else y) ≠ 2 := by
  by_cases h : c
  · rw [if_pos h]; exact hx
  · rw [if_neg h]; exact hy
theorem rsv_ne2 {w : Int64} : rsv w ≠ 2 := by
  unfold rsv
  iterate 15 refine ite_ne (by decide) ?_
  decide
theorem TB.num {b : Nat → Int32} {n : Int32} {K P : Nat → Int32} {W : Nat → Int64} {E : Nat → Int32} {m a : Nat} (tb : TB b n K P W E m) (ha : a < m) (hk : K a = 2) : (W a).toInt32 ≠ -1 := by
  obtain ⟨_, _, tk⟩ := tb.1 a ha
  rw [hk] at tk
  rcases tk with ⟨a1, a2, a3⟩ | ⟨a1, a2, a3, a4⟩ | ⟨a1, a2, a3, a4, a5⟩ | ⟨a1, a2, a3, a4⟩
  · exact absurd a2 (by decide)
  · rcases a4 with ⟨_, c⟩ | ⟨c, d, e⟩
    · exact absurd c (by decide)
    · exact absurd e.symm rsv_ne2
  · rw [a4, Int32.toInt32_toInt64]
    have q := a2.1
    have q' := a2.2
    generalize bt b n (P a) = x at q q' ⊢
    clear a5 a4 a3
    grind
  · rcases a4 with ⟨_, _, _, ⟨_, c⟩ | ⟨_, c⟩⟩ | ⟨_, _, ⟨d, c⟩ | ⟨_, c⟩⟩
    · exact absurd c (by decide)
    · exact absurd c (by decide)
    · rw [← c] at d; exact absurd d (by decide)
    · exact absurd c (by decide)
theorem p_testv {T : TS} {a N : Nat} {c : Nat → Nat} {ws : Nat → Nat → Int64} {nv : Nat} {wv : Nat → Int64} {ρ : zS} {τ : zT} {b : Nat → Int32} {n : Int32} (tb : TB b n T.1 T.2.1 T.2.2.1 T.2.2.2.1 T.2.2.2.2) (h : SX T a ρ τ) (ns : NNX c ws nv wv ρ τ) (N' : Nat) : zp (zf_Reader_takeTestValue N ρ τ) (fun r => VAL T a c ws nv wv ρ τ (fun μ => zf_M_value N' μ 0) r) := by
  obtain ⟨f, l, t, v, lq⟩ := LQ.ex ns.1 ns.2.1 (T.2.2.1 a)
  have lx := LX.mk ns.1 ns.2.1 lq
  have dj := lq.dj ns.1
  have go72 : ∀ x : Int32, x ≠ -1 → (T.1 a = 2 ∨ T.1 a = 3) → (∀ μ, SM T a μ → NSM c ws nv wv μ → zp (zf_M_value N' μ 0) (fun s => s.1 = x ∧ SM T (a + 1) s.2 ∧ NSM c ws nv wv s.2 ∧ RMF μ s.2)) → zp (zb_Reader_takeTestValue_72 N ρ τ x) (fun r => VAL T a c ws nv wv ρ τ (fun μ => zf_M_value N' μ 0) r) := by
    intro x hx hk m2
    unfold zb_Reader_takeTestValue_72
    refine zp_bind (zp_mono (X.tk tb h ns (by rcases hk with e | e <;> rw [e] <;> decide)) ?_)
    rintro r ⟨r1, r2, r3, r4, r5, r6⟩
    exact zp_some (Or.inr ⟨hx, nv, wv, r1, r2, r4, r5, m2⟩)
  have num : T.1 a = 2 → zp (zb_Reader_takeTestValue_72 N ρ τ ((τ 25 9) : Int64).toInt32) (fun r => VAL T a c ws nv wv ρ τ (fun μ => zf_M_value N' μ 0) r) := by
    intro e
    rw [h.w]
    refine go72 _ (tb.num h.1.2.2.2.2.2.2.2.2 e) (Or.inl e) fun μ sm nm => ?_
    have k2 : ¬ μ 82 7 = 2 := fun q => absurd (sm.d.name.mp q) (by rw [e]; decide)
    unfold zf_M_value zb_M_value_41
    refine zp_ite (fun _ => zp_ite (fun _ => zp_ite (fun _ => ?_) fun z => absurd (sm.d.num.mpr e) z) fun z => absurd k2 z) fun z => absurd sm.2.2.2 z
    rw [(sm.d.val e).1]
    exact p_M_valyes sm nm (Or.inl e)
  unfold zf_Reader_takeTestValue
  rw [h.k, h.w]
  refine zp_ite (fun d => ?_) fun d => ?_
  · unfold zb_Reader_takeTestValue_29
    rw [h.k]
    refine zp_ite (fun z => absurd rfl z) fun _ => zp_ite (fun e => ?_) fun e => ?_
    · unfold zb_Reader_takeTestValue_52
      exact zp_ite (fun z => absurd rfl z) fun _ => num e
    · refine zp_bind (zp_mono p_X_wrong fun r hr => zp_some ?_)
      rw [h.p] at hr
      refine Or.inl ⟨rfl, hr, fun μ sm nm => ?_⟩
      have k2 : ¬ μ 82 7 = 2 := fun q => d (sm.d.name.mp q)
      unfold zf_M_value
      exact zp_ite (fun _ => zp_ite (fun _ => p_M_valno sm e) fun z => absurd k2 z) fun z => absurd sm.2.2.2 z
  · have e3 := Classical.not_not.mp d
    refine zp_bind (zp_mono (lx.2.2.2.2 N) fun r hr => ?_)
    subst hr
    unfold zb_Reader_takeTestValue_29
    rw [h.k]
    refine zp_ite (fun z => ?_) fun z => zp_ite (fun y => ?_) fun y => ?_
    · unfold zb_Reader_takeTestValue_52
      refine zp_ite (fun _ => go72 _ (z8ne dj.2.2.2 z) (Or.inr e3) fun μ sm nm => ?_) fun y => absurd z y
      have lm := LM.mk nm (sm.cur e3) lq
      have un := ns.2.2.v lq z ns.1.c
      unfold zf_M_value
      refine zp_ite (fun _ => zp_ite (fun x => absurd (sm.d.name.mpr e3) x) fun _ => zp_bind (zp_mono (lm.2.2.2.1 N') fun u hu => zp_ite (fun x => ?_) fun x => zp_bind (zp_mono (p_M_local nm sm.2.2.2 (sm.cur e3) lq.2.2.2) fun s hs => ?_))) fun x => absurd sm.2.2.2 x
      · rcases hu with hu | hu
        · exact absurd hu.1 x
        · exact absurd un hu.2
      · rcases hs with hs | hs | hs | hs
        · rw [hs.2]
          exact p_M_valyes sm nm (Or.inr e3)
        · exact absurd hs.1 z
        · exact absurd hs.1 z
        · exact absurd hs.1 z
    · exact absurd y (by rw [e3]; decide)
    · have z' := Classical.not_not.mp z
      refine zp_bind (zp_mono p_X_wrong fun r hr => zp_some ?_)
      rw [h.p] at hr
      refine Or.inl ⟨rfl, hr, fun μ sm nm => ?_⟩
      have lm := LM.mk nm (sm.cur e3) lq
      unfold zf_M_value
      refine zp_ite (fun _ => zp_ite (fun x => absurd (sm.d.name.mpr e3) x) fun _ => zp_bind (zp_mono (lm.2.2.2.1 N') fun u hu => zp_ite (fun x => p_M_valno sm (by rw [e3]; decide)) fun x => zp_bind (zp_mono (p_M_local nm sm.2.2.2 (sm.cur e3) lq.2.2.2) fun s hs => ?_))) fun x => absurd sm.2.2.2 x
      rw [sm.p] at hs
      rcases hs with hs | hs | hs | hs
      · exact absurd z' hs.1
      · exact p_M_val53 hs.2.2
      · exact absurd rfl hs.2.1
      · exact absurd rfl hs.2.1
theorem NNX.lcl {c : Nat → Nat} {ws : Nat → Nat → Int64} {nv : Nat} {wv : Nat → Int64} {ρ : zS} {τ : zT} {w : Int64} (ns : NNX c ws nv wv ρ τ) (lq : LQ c ws nv wv w (-1) (-1) (-1) (-1)) (hn : nv < 3) : NNX c ws (nv + 1) (wAdd nv wv w) (zx_up ρ 18 5 (Int32.ofNat (nv + 1))) (zx_up τ 22 nv w) :=
  ⟨ns.1.lcl hn, ns.2.1.add lq.2.2.2 (by omega), ns.2.2.add lq ns.1.c⟩
theorem SX.lcl {T : TS} {a nv : Nat} {ρ : zS} {τ : zT} {w : Int64} {x : Int32} (h : SX T a ρ τ) : SX T a (zx_up ρ 18 5 x) (zx_up τ 22 nv w) :=
  h.of (zu_other (by decide)) (zu_other (by decide)) (zu_other (by decide)) (zu_other (by decide)) (zt_other (by decide)) (zt_other (by decide))
theorem RXF.lcl {ρ : zS} {x : Int32} : RXF ρ (zx_up ρ 18 5 x) := ⟨fun q _ b _ => zu_other b, fun i hi => by rw [zx_up_same, zu_ne hi]⟩
theorem RTF.lcl {τ : zT} {i : Nat} {x : Int64} : RTF τ (zx_up τ 22 i x) := fun q a _ => zt_other a
theorem SM.lcl {T : TS} {a : Nat} {μ ν : zS} (h : SM T a μ) (f : ∀ q, q ≠ 82 → q ≠ 85 → q ≠ 86 → ν q = μ q) (g : ∀ i, i ≠ 18 → ν 82 i = μ 82 i) : SM T a ν :=
  h.of (f 84 (by decide) (by decide) (by decide)) fun i hi => g i (by omega)
theorem p_setv {T : TS} {a N : Nat} {c : Nat → Nat} {ws : Nat → Nat → Int64} {nv : Nat} {wv : Nat → Int64} {ρ : zS} {τ : zT} {b : Nat → Int32} {n : Int32} (tb : TB b n T.1 T.2.1 T.2.2.1 T.2.2.2.1 T.2.2.2.2) (h : SX T a ρ τ) (ns : NNX c ws nv wv ρ τ) (N' : Nat) : zp (zf_Reader_takeSetValue N ρ τ) (fun r => VAL T a c ws nv wv ρ τ (fun μ => zf_M_value N' μ 1) r) := by
  obtain ⟨f, l, t, v, lq⟩ := LQ.ex ns.1 ns.2.1 (T.2.2.1 a)
  have lx := LX.mk ns.1 ns.2.1 lq
  have dj := lq.dj ns.1
  have nv3 := ns.1.2.2.2.2.2.1
  have fl54 : (∀ μ, SM T a μ → NSM c ws nv wv μ → zp (zf_M_value N' μ 1) (fun s => MFl s.2 (T.2.1 a))) → zp (zb_Reader_takeSetValue_54 N ρ τ) (fun r => VAL T a c ws nv wv ρ τ (fun μ => zf_M_value N' μ 1) r) := by
    intro m1
    unfold zb_Reader_takeSetValue_54
    refine zp_bind (zp_mono (p_X_fail (by decide)) fun r hr => zp_some ?_)
    rw [h.p] at hr
    exact Or.inl ⟨rfl, hr.2, m1⟩
  unfold zf_Reader_takeSetValue
  rw [h.k]
  refine zp_ite (fun d => ?_) fun d => ?_
  · unfold zb_Reader_takeSetValue_16
    rw [h.k]
    refine zp_ite (fun z => absurd rfl z) fun _ => zp_ite (fun e => fl54 fun μ sm nm => ?_) fun e => ?_
    · have k2 : ¬ μ 82 7 = 2 := fun q => d (sm.d.name.mp q)
      unfold zf_M_value
      exact zp_ite (fun _ => zp_ite (fun _ => p_M_valno sm e) fun z => absurd k2 z) fun z => absurd sm.2.2.2 z
    · have e2 := Classical.not_not.mp e
      unfold zb_Reader_takeSetValue_32 zb_Reader_takeSetValue_62 zb_Reader_takeSetValue_84 zb_Reader_takeSetValue_102 zb_Reader_takeSetValue_121
      rw [h.w]
      refine zp_ite (fun _ => zp_ite (fun _ => zp_ite (fun _ => zp_ite (fun _ => zp_bind (zp_mono (X.tk tb h ns (by rw [e2]; decide)) ?_)) fun z => absurd rfl z) fun z => absurd rfl z) fun z => absurd rfl z) fun z => absurd rfl z
      rintro r ⟨r1, r2, r3, r4, r5, r6⟩
      refine zp_some (Or.inr ⟨tb.num h.1.2.2.2.2.2.2.2.2 e2, nv, wv, r1, r2, r4, r5, fun μ sm nm => ?_⟩)
      · have k2 : ¬ μ 82 7 = 2 := fun q => absurd (sm.d.name.mp q) (by rw [e2]; decide)
        unfold zf_M_value zb_M_value_41
        refine zp_ite (fun _ => zp_ite (fun _ => zp_ite (fun _ => ?_) fun z => absurd (sm.d.num.mpr e2) z) fun z => absurd k2 z) fun z => absurd sm.2.2.2 z
        dsimp only
        rw [(sm.d.val e2).1]
        exact p_M_valyes sm nm (Or.inl e2)
  · have e3 := Classical.not_not.mp d
    have kk : ¬ T.1 a = 0 ∧ ¬ T.1 a = 1 := by rw [e3]; decide
    unfold zb_Reader_takeSetValue_16
    refine zp_ite (fun _ => ?_) fun z => absurd (by decide) z
    unfold zb_Reader_takeSetValue_32
    rw [h.w]
    refine zp_ite (fun z => absurd z (by decide)) fun _ => zp_bind (zp_mono (lx.1 N) fun so hso => zp_ite (fun z => ?_) fun z => fl54 fun μ sm nm => ?_)
    · have un : f = -1 ∧ l = -1 ∧ t = -1 := by
        rcases hso with q | q | q | q
        · exact q.2
        · exact absurd (q.1.symm.trans z) (by decide)
        · exact absurd (q.1.symm.trans z) (by decide)
        · exact absurd (q.1.symm.trans z) (by decide)
      obtain ⟨uf, ul, ut⟩ := un
      subst uf ul ut
      have ref : ∀ {Q : Int32 × zS → Prop} (μ : zS), SM T a μ → NSM c ws nv wv μ → zp (zf_M_local N' μ 1) (fun s => zp (zb_M_value_53 N' s.2 (8 + s.1)) Q) → zp (zf_M_value N' μ 1) Q := by
        intro Q μ sm nm k
        have lm := LM.mk nm (sm.cur e3) lq
        unfold zf_M_value
        refine zp_ite (fun _ => zp_ite (fun x => absurd (sm.d.name.mpr e3) x) fun _ => zp_bind (zp_mono (lm.2.2.2.1 N') fun u hu => zp_ite (fun x => ?_) fun x => zp_bind k)) fun x => absurd sm.2.2.2 x
        rcases hu with hu | hu
        · exact absurd hu.1 x
        · exact absurd ⟨rfl, rfl, rfl⟩ hu.2
      unfold zb_Reader_takeSetValue_62
      rw [h.w]
      refine zp_ite (fun z => absurd z (by decide)) fun _ => zp_bind (zp_mono (p_X_makeLocal ns.1 ns.2.1 lq.2.2.2) fun r hr => ?_)
      unfold zb_Reader_takeSetValue_84
      refine zp_ite (fun z => absurd z (by decide)) fun _ => ?_
      rcases hr with ⟨hv, hr⟩ | ⟨hv, n3, hr⟩ | ⟨hv, n3, hr⟩
      · rw [hr]
        refine zp_ite (fun _ => ?_) fun y => absurd hv y
        unfold zb_Reader_takeSetValue_102 zb_Reader_takeSetValue_121
        refine zp_ite (fun z => absurd z (by decide)) fun _ => zp_bind (zp_mono (X.tk tb h ns kk) ?_)
        rintro r ⟨r1, r2, r3, r4, r5, r6⟩
        refine zp_some (Or.inr ⟨z8ne dj.2.2.2 hv, nv, wv, r1, r2, r4, r5, fun μ sm nm => ref μ sm nm (zp_mono (p_M_local nm sm.2.2.2 (sm.cur e3) lq.2.2.2) fun s hs => ?_)⟩)
        rcases hs with hs | hs | hs | hs
        · rw [hs.2]; exact p_M_valyes sm nm (Or.inr e3)
        · exact absurd hs.1 hv
        · exact absurd hs.1 hv
        · exact absurd hs.1 hv
      · subst hv
        rw [hr]
        refine zp_ite (fun _ => ?_) fun y => absurd (zo_ne (by omega)) y
        unfold zb_Reader_takeSetValue_102 zb_Reader_takeSetValue_121
        dsimp only
        refine zp_ite (fun z => absurd z (by decide)) fun _ => zp_bind (zp_mono (X.tk tb h.lcl (ns.lcl lq n3) kk) ?_)
        rintro r ⟨r1, r2, r3, r4, r5, r6⟩
        refine zp_some (Or.inr ⟨?_, nv + 1, _, r1, r2, RXF.lcl.tr r4, RTF.lcl.tr r5, fun μ sm nm => ref μ sm nm (zp_mono (p_M_local nm sm.2.2.2 (sm.cur e3) lq.2.2.2) fun s hs => ?_)⟩)
        · refine z8ne (v := Int32.ofNat nv) (Or.inr ⟨(zo_le (k := 0) (by omega) (by omega)).mpr (Nat.zero_le _), (zo_lt (j := 3) (by omega) (by omega)).mpr n3⟩) (zo_ne (by omega))
        · rcases hs with hs | hs | hs | hs
          · exact absurd rfl hs.1
          · exact absurd hs.2.1 (by decide)
          · exact absurd hs.2.2.1 (by omega)
          · obtain ⟨_, _, _, q1, q2, q3, q4, q5⟩ := hs
            rw [q1]
            refine zp_mono (p_M_valyes (sm.lcl q4 q5) q2 (Or.inr e3)) ?_
            rintro s ⟨x1, x2, x3, x4⟩
            exact ⟨x1, x2, x3, q3.tr x4⟩
      · subst hv
        rw [hr]
        refine zp_ite (fun y => absurd rfl y) fun _ => zp_bind (zp_mono (p_X_fail (by decide)) fun r hr => zp_some ?_)
        dsimp only at hr
        rw [h.p] at hr
        refine Or.inl ⟨rfl, hr.2, fun μ sm nm => ref μ sm nm (zp_mono (p_M_local nm sm.2.2.2 (sm.cur e3) lq.2.2.2) fun s hs => ?_)⟩
        rw [sm.p] at hs
        rcases hs with hs | hs | hs | hs
        · exact absurd rfl hs.1
        · exact absurd hs.2.1 (by decide)
        · exact p_M_val53 hs.2.2.2
        · exact absurd hs.2.2.1 (by omega)
    · have lm := LM.mk nm (sm.cur e3) lq
      unfold zf_M_value
      refine zp_ite (fun _ => zp_ite (fun x => absurd (sm.d.name.mpr e3) x) fun _ => zp_bind (zp_mono (lm.2.2.2.1 N') fun u hu => zp_ite (fun x => p_M_valno sm (by rw [e3]; decide)) fun x => ?_)) fun x => absurd sm.2.2.2 x
      exfalso
      rcases hu with hu | hu
      · rcases hso with q | q | q | q
        · exact z q.1
        · exact q.2.1 hu.2.1
        · exact q.2.2.1 hu.2.2.1
        · exact q.2.2.2 hu.2.2.2
      · exact x (fun y => absurd (y.symm.trans hu.1) (by decide))
