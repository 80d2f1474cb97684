-- both answer alike
set_option maxRecDepth 2000
def sm (f : Nat → Int32) : Nat → Nat → Int32
  | _, 0 => 0
  | a, n + 1 => f a + sm f (a + 1) n
theorem sm_add {f : Nat → Int32} : ∀ (m a n : Nat), sm f a (m + n) = sm f a m + sm f (a + m) n := by
  intro m
  induction m with
  | zero => intro a n; rw [Nat.zero_add, Nat.add_zero, sm, Int32.zero_add]
  | succ m ih =>
    intro a n
    rw [show m + 1 + n = (m + n) + 1 by omega, sm, ih, sm, Int32.add_assoc, show a + 1 + m = a + (m + 1) by omega]
theorem sm_zero {f : Nat → Int32} : ∀ (n a : Nat), (∀ v, a ≤ v → v < a + n → f v = 0) → sm f a n = 0 := by
  intro n
  induction n with
  | zero => intro a _; rw [sm]
  | succ n ih =>
    intro a h
    rw [sm, h a (Nat.le_refl _) (by omega), ih (a + 1) (fun v h1 h2 => h v (by omega) (by omega)), Int32.add_zero]
theorem sm_congr {f g : Nat → Int32} : ∀ (n a : Nat), (∀ v, a ≤ v → v < a + n → f v = g v) → sm f a n = sm g a n := by
  intro n
  induction n with
  | zero => intro a _; rw [sm, sm]
  | succ n ih =>
    intro a h
    rw [sm, sm, h a (Nat.le_refl _) (by omega), ih (a + 1) (fun v h1 h2 => h v (by omega) (by omega))]
noncomputable def gt (p : Prop) (x : Int32) : Int32 := @ite Int32 p (Classical.propDecidable p) x 0
theorem gt_y {p : Prop} {x : Int32} (h : p) : gt p x = x := by unfold gt; rw [if_pos h]
theorem gt_n {p : Prop} {x : Int32} (h : ¬ p) : gt p x = 0 := by unfold gt; rw [if_neg h]
theorem gt_same {p q : Prop} {x y : Int32} (h1 : p → q → x = y) (h2 : p → ¬ q → x = 0) (h3 : q → ¬ p → y = 0) : gt p x = gt q y := by
  by_cases a : p
  · by_cases b : q
    · rw [gt_y a, gt_y b, h1 a b]
    · rw [gt_y a, gt_n b, h2 a b]
  · by_cases b : q
    · rw [gt_n a, gt_y b, h3 b a]
    · rw [gt_n a, gt_n b]
def AN1 (P : Prop) (r : Int32) : Prop := (r = 0 ∨ r = 1) ∧ (r = 1 ↔ P)
theorem AN1.y {P : Prop} {r : Int32} (h : AN1 P r) (n : ¬ r = 0) : P := h.2.mp (h.1.resolve_left n)
theorem AN1.n {P : Prop} {r : Int32} (h : AN1 P r) (z : r = 0) : ¬ P := fun p => absurd (z.symm.trans (h.2.mpr p)) (by decide)
theorem AN1.gt {P : Prop} {r : Int32} (h : AN1 P r) : r = gt P 1 := by
  rcases h.1 with e | e
  · rw [gt_n (h.n e), e]
  · rw [gt_y (h.2.mp e), e]
def TAK (σ : zS) (c2 : Nat) (len : Nat → Nat) (v : Nat) : Prop := v / 24 < c2 ∧ v % 24 < len (v / 24) ∧ σ 7 v = 3
def HLD (σ : zS) (u v : Nat) : Prop := bit (σ 11 v) (σ 8 u).toNatClampNeg
def MET (σ : zS) (len : Nat → Nat) (u v : Nat) : Prop := NEA σ len (u / 24) (v / 24) (u % 24) ∧ NEA σ len (v / 24) (u / 24) (v % 24)
def FIT (σ : zS) (len : Nat → Nat) (u v : Nat) : Prop := u / 24 ≠ v / 24 ∧ MET σ len u v
def DIS (σ : zS) (u v : Nat) : Prop := σ 11 v &&& σ 11 u = 0
def TOG (σ : zS) (len : Nat → Nat) (u v : Nat) : Prop := ¬ σ 8 u = σ 8 v ∧ DIS σ u v ∧ FIT σ len u v
def LKS (σ : zS) (c2 : Nat) (len : Nat → Nat) : Prop := ∀ v, TAK σ c2 len v → 0 ≤ σ 8 v ∧ σ 8 v ≤ 3
theorem LKS.nat {σ : zS} {c2 : Nat} {len : Nat → Nat} {v : Nat} (h : LKS σ c2 len) (t : TAK σ c2 len v) : (σ 8 v).toNatClampNeg < 24 ∧ Int32.ofNat (σ 8 v).toNatClampNeg = σ 8 v := by
  have k := h v t
  have n := z_nat k.1
  have b := Int32.le_iff_toInt_le.mp k.2
  have k3 : (3 : Int32).toInt = 3 := rfl
  exact ⟨by omega, zo_mk k.1⟩
theorem dis_no {σ : zS} {u v s : Nat} (hs : s < 24) (d : DIS σ u v) (b : bit (σ 11 u) s) : ¬ bit (σ 11 v) s := fun w => by
  have k : bit (σ 11 v &&& σ 11 u) s := (bit_and hs).mpr ⟨w, b⟩
  rw [show σ 11 v &&& σ 11 u = 0 from d] at k
  exact bit_zero hs k
theorem dis_no2 {σ : zS} {u v s : Nat} (hs : s < 24) (d : DIS σ u v) (b : bit (σ 11 v) s) : ¬ bit (σ 11 u) s := fun w => dis_no hs d w b
noncomputable def CR (σ : zS) (c2 : Nat) (len : Nat → Nat) : Nat → Nat → (Nat → Nat) → Int32
  | 0, d, ch => gt (1 < d ∧ HLD σ (ch (d - 1)) (ch 0)) 1
  | k + 1, d, ch => gt (1 < d ∧ HLD σ (ch (d - 1)) (ch 0)) 1 + sm (fun v => gt (TAK σ c2 len v ∧ HLD σ (ch (d - 1)) v ∧ (∀ i, i < d → DIS σ (ch i) v) ∧ (∀ i, i < d → FIT σ len (ch i) v)) (CR σ c2 len k (d + 1) (fun j => if j = d then v else ch j))) (24 * (ch 0 / 24 + 1)) (24 * (c2 - (ch 0 / 24 + 1)))
noncomputable def TLS (σ : zS) (c2 : Nat) (len : Nat → Nat) : Nat → Nat → (Nat → Nat) → Int32
  | 0, _, _ => 0
  | k + 1, d, ch => sm (fun v => gt (TAK σ c2 len v ∧ HLD σ (ch (d - 1)) v ∧ (∀ i, i < d → DIS σ (ch i) v) ∧ (∀ i, i < d → FIT σ len (ch i) v)) (CR σ c2 len k (d + 1) (fun j => if j = d then v else ch j))) (24 * (ch 0 / 24 + 1)) (24 * (c2 - (ch 0 / 24 + 1)))
theorem CR_tls {σ : zS} {c2 : Nat} {len : Nat → Nat} {k d : Nat} {ch : Nat → Nat} : CR σ c2 len k d ch = gt (1 < d ∧ HLD σ (ch (d - 1)) (ch 0)) 1 + TLS σ c2 len k d ch := by
  cases k with
  | zero => rw [CR, TLS, Int32.add_zero]
  | succ k => rw [CR, TLS]
def KP (d : Nat) (r r' : zS) : Prop := (∀ q, q ≠ 78 → r' q = r q) ∧ ∀ i, i < d → r' 78 i = r 78 i
theorem KP.tr {d : Nat} {a b c : zS} (h : KP d a b) (g : KP d b c) : KP d a c := ⟨fun q hq => (g.1 q hq).trans (h.1 q hq), fun i hi => (g.2 i hi).trans (h.2 i hi)⟩
def CHN (σ : zS) (c2 : Nat) (len : Nat → Nat) (d : Nat) (ch : Nat → Nat) (used : Int32) (r : zS) : Prop := (∀ q, q ≠ 78 → r q = σ q) ∧ (∀ i, i < d → TAK σ c2 len (ch i) ∧ r 78 i = Int32.ofNat (ch i)) ∧ (∀ x : Int32, x &&& used = 0 ↔ ∀ i, i < d → x &&& σ 11 (ch i) = 0)
theorem CHN.kp {σ r r' : zS} {c2 d : Nat} {len ch : Nat → Nat} {used : Int32} (h : CHN σ c2 len d ch used r) (k : KP d r r') : CHN σ c2 len d ch used r' := ⟨fun q hq => (k.1 q hq).trans (h.1 q hq), fun i hi => ⟨(h.2.1 i hi).1, (k.2 i hi).trans (h.2.1 i hi).2⟩, h.2.2⟩
theorem and_or0 {x a b : Int32} : x &&& (a ||| b) = 0 ↔ (x &&& a = 0 ∧ x &&& b = 0) := by
  have key : ∀ y : Int32, y = 0 ↔ ∀ i, i < 32 → y.toBitVec.getLsbD i = false := fun y => by
    constructor
    · intro h i _
      rw [h]
      show (0#32).getLsbD i = false
      exact BitVec.getLsbD_zero
    · intro h
      apply Int32.toBitVec_inj.mp
      apply BitVec.eq_of_getLsbD_eq
      intro i hi
      rw [h i hi]
      show false = (0#32).getLsbD i
      rw [BitVec.getLsbD_zero]
  rw [key, key, key]
  simp only [Int32.toBitVec_and, Int32.toBitVec_or, BitVec.getLsbD_and, BitVec.getLsbD_or]
  constructor
  · intro h
    refine ⟨fun i hi => ?_, fun i hi => ?_⟩
    · have := h i hi
      revert this
      cases x.toBitVec.getLsbD i <;> cases a.toBitVec.getLsbD i <;> cases b.toBitVec.getLsbD i <;> simp
    · have := h i hi
      revert this
      cases x.toBitVec.getLsbD i <;> cases a.toBitVec.getLsbD i <;> cases b.toBitVec.getLsbD i <;> simp
  · intro h i hi
    have h1 := h.1 i hi
    have h2 := h.2 i hi
    revert h1 h2
    cases x.toBitVec.getLsbD i <;> cases a.toBitVec.getLsbD i <;> cases b.toBitVec.getLsbD i <;> simp
theorem tak_lt {σ : zS} {c2 : Nat} {len : Nat → Nat} {v : Nat} (pj : PJ σ c2 len) (t : TAK σ c2 len v) : v < 24 * c2 ∧ v < 96 := by
  have a := t.1
  have := pj.1
  omega
theorem p_fitsRing {N : Nat} {σ r : zS} {c2 d : Nat} {len ch : Nat → Nat} {used : Int32} {t s : Nat} (pj : PJ σ c2 len) (nr : ∀ a b, a < c2 → b < 4 → ∀ s, s < 24 → (bit (σ 77 (4 * a + b)) s ↔ NEA σ len a b s)) (cn : CHN σ c2 len d ch used r) (hd : d < 4) (ht : t < c2) (hs : s < len t) : zp (zf_Judge_fitsRing N r (Int32.ofNat d) (Int32.ofNat t) (Int32.ofNat s)) (fun x => AN1 (∀ i, i < d → FIT σ len (ch i) (24 * t + s)) x) := by
  have hc := pj.1
  have l24 := (pj.2.2.1 t ht).1
  unfold zf_Judge_fitsRing
  have go : ∀ (n i : Nat), i ≤ d → (∀ j, j < i → FIT σ len (ch j) (24 * t + s)) → zp (zb_Judge_fitsRing_3 N n r (Int32.ofNat d) (Int32.ofNat t) (Int32.ofNat s) (Int32.ofNat i)) (fun x => AN1 (∀ i, i < d → FIT σ len (ch i) (24 * t + s)) x) := by
    intro n
    induction n with
    | zero => intro _ _ _; exact zp_none
    | succ n ih =>
      intro i hi h
      rw [zb_Judge_fitsRing_3]
      refine zp_ite (fun z => zp_some ⟨Or.inr rfl, fun _ j hj => h j ?_, fun _ => rfl⟩) fun z => ?_
      · have := (zo_le (k := d) (j := i) (by omega) (by omega)).mp z
        omega
      have id : i < d := by
        have : ¬ d ≤ i := fun w => z ((zo_le (by omega) (by omega)).mpr w)
        omega
      obtain ⟨tk, e78⟩ := cn.2.1 i id
      have b96 := (tak_lt pj tk).2
      have dm := z_dm96 ⟨ch i, b96⟩
      dsimp only at dm
      have li := (pj.2.2.1 _ tk.1).1
      rw [zo_n (m := i) (by omega), e78, dm.1, dm.2, zo_1 (m := i) (by omega)]
      have sl : (24 * t + s) / 24 = t ∧ (24 * t + s) % 24 = s := by omega
      have kno : ¬ FIT σ len (ch i) (24 * t + s) → AN1 (∀ i, i < d → FIT σ len (ch i) (24 * t + s)) 0 := fun w => ⟨Or.inl rfl, fun e => absurd e (by decide), fun e => absurd (e i id) w⟩
      refine zp_ite (fun w => ?_) fun _ => zp_chk fun _ => zp_ite (fun e => zp_some (kno fun w => ?_)) fun ne => zp_chk fun _ => zp_bind (zp_mono (p_canMeet (by omega) (by omega)) fun r6 h6 => ?_)
      · have := (zo_le (k := 4) (j := i) (by omega) (by omega)).mp w
        omega
      · have := zo_inj (by omega) (by omega) e
        exact w.1 (by rw [sl.1]; exact this)
      · rw [cn.1 77 (by decide), nr (ch i / 24) t tk.1 (by omega) (ch i % 24) (by have := tk.2.1; omega), nr t (ch i / 24) ht (by omega) s (by omega)] at h6
        have mt : r6 = 1 ↔ MET σ len (ch i) (24 * t + s) := by
          unfold MET
          rw [sl.1, sl.2]
          exact h6.2
        have nt : ch i / 24 ≠ (24 * t + s) / 24 := fun w => ne (by rw [sl.1] at w; rw [w])
        refine zp_ite (fun y => ih (i + 1) (by omega) fun j hj => ?_) fun y => zp_some (kno fun w => ?_)
        · by_cases c : j = i
          · rw [c]; exact ⟨nt, mt.mp (h6.1.resolve_left y)⟩
          · exact h j (by omega)
        · exact absurd ((Classical.not_not.mp y).symm.trans (mt.mpr w.2)) (by decide)
  exact go N 0 (Nat.zero_le _) fun j hj => absurd hj (Nat.not_lt_zero _)
theorem p_ringsWith {N : Nat} {kr : zS → Int32 → Int32 → Option (Int32 × zS)} {σ : zS} {c2 d k : Nat} {len ch : Nat → Nat} {used : Int32} {t : Nat} (pj : PJ σ c2 len) (lk : LKS σ c2 len) (nr : ∀ a b, a < c2 → b < 4 → ∀ s, s < 24 → (bit (σ 77 (4 * a + b)) s ↔ NEA σ len a b s)) (d1 : 1 ≤ d) (hd : d < 4) (ht : t < c2) (hkr : ∀ v u r, CHN σ c2 len (d + 1) (fun j => if j = d then v else ch j) u r → zp (kr r (Int32.ofNat (d + 1)) u) (fun p => p.1 = CR σ c2 len k (d + 1) (fun j => if j = d then v else ch j) ∧ KP (d + 1) r p.2)) : ∀ (n s : Nat) (acc : Int32) (r : zS), s ≤ len t → CHN σ c2 len d ch used r → zp (zb_Judge_countRingsWith_6 kr N n r (Int32.ofNat d) used (σ 8 (ch (d - 1))) (Int32.ofNat t) acc (Int32.ofNat s)) (fun p => p.1 = acc + sm (fun v => gt (TAK σ c2 len v ∧ HLD σ (ch (d - 1)) v ∧ (∀ i, i < d → DIS σ (ch i) v) ∧ (∀ i, i < d → FIT σ len (ch i) v)) (CR σ c2 len k (d + 1) (fun j => if j = d then v else ch j))) (24 * t + s) (len t - s) ∧ KP d r p.2) := by
  have hc := pj.1
  obtain ⟨l24, e5, _⟩ := pj.2.2.1 t ht
  intro n
  induction n with
  | zero => intro _ _ _ _ _; exact zp_none
  | succ n ih =>
    intro s acc r hs cn
    rw [zb_Judge_countRingsWith_6]
    refine zp_bind (zp_mono (p_X_lengthOf (by omega)) fun r1 e1 => ?_)
    rw [cn.1 5 (by decide), e5] at e1
    subst e1
    refine zp_ite (fun z => zp_some ⟨?_, fun _ _ => rfl, fun _ _ => rfl⟩) fun z => zp_ite (fun w => ?_) fun _ => ?_
    · have := (zo_le (k := len t) (j := s) (by omega) (by omega)).mp z
      rw [show len t - s = 0 by omega, sm, Int32.add_zero]
    · have := (zo_le (k := 4) (j := d) (by omega) (by omega)).mp w
      omega
    have sl : s < len t := by
      have : ¬ len t ≤ s := fun w => z ((zo_le (by omega) (by omega)).mpr w)
      omega
    refine zp_bind (zp_mono (p_X_slotOf (by omega) (by omega) (by rw [cn.1 5 (by decide), e5]; exact (zo_lt (by omega) (by omega)).mpr sl)) fun r4 e4 => ?_)
    subst e4
    unfold zb_Judge_countRingsWith_116
    rw [zo_n (m := 24 * t + s) (by omega), zo_1 (m := s) (by omega), cn.1 7 (by decide), cn.1 11 (by decide)]
    have hh : len t - s = (len t - (s + 1)) + 1 := by omega
    rw [hh, sm, show 24 * t + s + 1 = 24 * t + (s + 1) by omega]
    have dv : (24 * t + s) / 24 = t ∧ (24 * t + s) % 24 = s := by omega
    have skip : ¬ (TAK σ c2 len (24 * t + s) ∧ HLD σ (ch (d - 1)) (24 * t + s) ∧ (∀ i, i < d → DIS σ (ch i) (24 * t + s)) ∧ (∀ i, i < d → FIT σ len (ch i) (24 * t + s))) → zp (zb_Judge_countRingsWith_6 kr N n r (Int32.ofNat d) used (σ 8 (ch (d - 1))) (Int32.ofNat t) acc (Int32.ofNat (s + 1))) (fun p => p.1 = acc + (gt (TAK σ c2 len (24 * t + s) ∧ HLD σ (ch (d - 1)) (24 * t + s) ∧ (∀ i, i < d → DIS σ (ch i) (24 * t + s)) ∧ (∀ i, i < d → FIT σ len (ch i) (24 * t + s))) (CR σ c2 len k (d + 1) (fun j => if j = d then 24 * t + s else ch j)) + sm (fun v => gt (TAK σ c2 len v ∧ HLD σ (ch (d - 1)) v ∧ (∀ i, i < d → DIS σ (ch i) v) ∧ (∀ i, i < d → FIT σ len (ch i) v)) (CR σ c2 len k (d + 1) (fun j => if j = d then v else ch j))) (24 * t + (s + 1)) (len t - (s + 1))) ∧ KP d r p.2) := fun no => by
      rw [gt_n no, Int32.zero_add]
      exact ih (s + 1) acc r (by omega) cn
    obtain ⟨tl, _⟩ := cn.2.1 (d - 1) (by omega)
    obtain ⟨ln, le⟩ := lk.nat tl
    refine zp_chk fun _ => zp_chk fun _ => zp_ite (fun n3 => skip fun w => n3 w.1.2.2) fun y3 => zp_ite (fun nh => skip fun w => ?_) fun yh => zp_ite (fun nd => skip fun w => nd ((cn.2.2 _).mpr w.2.2.1)) fun yd => zp_bind (zp_mono (p_fitsRing pj nr cn hd ht sl) fun r10 h10 => zp_ite (fun z10 => skip fun w => h10.n z10 w.2.2.2) fun n10 => zp_chk fun _ => ?_)
    · have b : bit (σ 11 (24 * t + s)) (σ 8 (ch (d - 1))).toNatClampNeg := w.2.1
      unfold bit at b
      rw [le] at b
      exact b nh
    · have y3 := Classical.not_not.mp y3
      have tk : TAK σ c2 len (24 * t + s) := ⟨by rw [dv.1]; exact ht, by rw [dv.1, dv.2]; exact sl, y3⟩
      have hl : HLD σ (ch (d - 1)) (24 * t + s) := by
        unfold HLD bit
        rw [le]
        exact yh
      have ds : ∀ i, i < d → DIS σ (ch i) (24 * t + s) := (cn.2.2 _).mp (Classical.not_not.mp yd)
      have all : TAK σ c2 len (24 * t + s) ∧ HLD σ (ch (d - 1)) (24 * t + s) ∧ (∀ i, i < d → DIS σ (ch i) (24 * t + s)) ∧ (∀ i, i < d → FIT σ len (ch i) (24 * t + s)) := ⟨tk, hl, ds, h10.y n10⟩
      rw [gt_y all, zo_n (m := d) (by omega), zo_1 (m := d) (by omega)]
      have cn' : CHN σ c2 len (d + 1) (fun j => if j = d then 24 * t + s else ch j) (used ||| σ 11 (24 * t + s)) (zx_up r 78 d (Int32.ofNat (24 * t + s))) := by
        refine ⟨fun q hq => by rw [zu_other hq]; exact cn.1 q hq, fun i hi => ?_, fun x => ?_⟩
        · rw [zx_up_same]
          by_cases c : i = d
          · dsimp only
            rw [if_pos c, c, zu_eq]
            exact ⟨tk, rfl⟩
          · dsimp only
            rw [if_neg c, zu_ne c]
            exact cn.2.1 i (by omega)
        · rw [and_or0, cn.2.2 x]
          constructor
          · rintro ⟨a, b⟩ i hi
            dsimp only
            by_cases c : i = d
            · rw [if_pos c]; exact b
            · rw [if_neg c]; exact a i (by omega)
          · intro a
            refine ⟨fun i hi => ?_, ?_⟩
            · have := a i (by omega)
              dsimp only at this
              rw [if_neg (by omega)] at this
              exact this
            · have := a d (by omega)
              dsimp only at this
              rw [if_pos rfl] at this
              exact this
      refine zp_bind (zp_mono (hkr (24 * t + s) _ _ cn') fun r13 h13 => ?_)
      have kp : KP d r r13.2 := by
        refine ⟨fun q hq => by rw [h13.2.1 q hq, zu_other hq], fun i hi => ?_⟩
        rw [h13.2.2 i (by omega), zx_up_same, zu_ne (by omega)]
      refine zp_mono (ih (s + 1) (acc + r13.1) r13.2 (by omega) (cn.kp kp)) fun p hp => ⟨?_, kp.tr hp.2⟩
      rw [hp.1, h13.1, Int32.add_assoc]
