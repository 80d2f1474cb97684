-- both answer alike
set_option maxRecDepth 2000
def OEQ (m c0 : Nat) (x x' : Nat → Int32) : Prop := (∀ f, f < c0 → x f = x' f) ∧ (∀ t, t < m → (x (15 + 6 * t) = 5 ↔ x' (15 + 6 * t) = 5)) ∧ ((∀ t, t < m → GON (x (15 + 6 * t))) ↔ ∀ t, t < m → GON (x' (15 + 6 * t)))
theorem OEQ.rf {m c0 : Nat} {x : Nat → Int32} : OEQ m c0 x x := ⟨fun _ _ => rfl, fun _ _ => Iff.rfl, Iff.rfl⟩
theorem OEQ.sy {m c0 : Nat} {x y : Nat → Int32} (h : OEQ m c0 x y) : OEQ m c0 y x := ⟨fun f hf => (h.1 f hf).symm, fun t ht => (h.2.1 t ht).symm, h.2.2.symm⟩
theorem OEQ.tr {m c0 : Nat} {x y z : Nat → Int32} (h : OEQ m c0 x y) (g : OEQ m c0 y z) : OEQ m c0 x z := ⟨fun f hf => (h.1 f hf).trans (g.1 f hf), fun t ht => (h.2.1 t ht).trans (g.2.1 t ht), h.2.2.trans g.2.2⟩
def OCB (m : Nat) (w : Int32) (x : Nat → Int32) (c : Int32) : Prop := (∀ i, i < 18 → gb c i = gb w i) ∧ (∀ t, t < 4 → (gb c (18 + t) = true ↔ (t < m ∧ x (15 + 6 * t) = 5))) ∧ (gb c 22 = true ↔ ¬ ∀ t, t < m → GON (x (15 + 6 * t))) ∧ (∀ i, 23 ≤ i → gb c i = false)
theorem bool_iff {a b : Bool} (h : a = true ↔ b = true) : a = b := by
  cases a with
  | true => exact (h.mp rfl).symm
  | false =>
    cases b with
    | true => exact absurd (h.mpr rfl) (by decide)
    | false => rfl
theorem OCB.eq {m c0 : Nat} {w w' c c' : Int32} {x x' : Nat → Int32} (m4 : m ≤ 4) (fw : FWB w x) (fw' : FWB w' x') (z : ∀ f, c0 ≤ f → f < 6 → x f = 0) (z' : ∀ f, c0 ≤ f → f < 6 → x' f = 0) (h : OCB m w x c) (h' : OCB m w' x' c') (c6 : c0 ≤ 6) : c = c' ↔ OEQ m c0 x x' := by
  constructor
  · intro e
    subst e
    have ww : w = w' := gb_ext fun i hi => by
      by_cases k : i < 18
      · rw [← h.1 i k, h'.1 i k]
      · rw [fw.2.2 i (by omega), fw'.2.2 i (by omega)]
    refine ⟨fun f hf => ?_, fun t ht => ?_, ?_⟩
    · rw [← fw.get (show f < 6 by omega), ← fw'.get (show f < 6 by omega), ww]
    · have a := h.2.1 t (by omega)
      have b := h'.2.1 t (by omega)
      constructor
      · intro k; exact (b.mp (a.mpr ⟨ht, k⟩)).2
      · intro k; exact (a.mp (b.mpr ⟨ht, k⟩)).2
    · have a := h.2.2.1
      have b := h'.2.2.1
      constructor
      · intro k; exact Classical.byContradiction fun n => a.mp (b.mpr n) k
      · intro k; exact Classical.byContradiction fun n => b.mp (a.mpr n) k
  · intro o
    have ww : w = w' := fw.one fw' fun f hf => by
      by_cases k : f < c0
      · exact o.1 f k
      · rw [z f (by omega) hf, z' f (by omega) hf]
    refine gb_ext fun i hi => ?_
    by_cases k : i < 18
    · rw [h.1 i k, h'.1 i k, ww]
    · by_cases d : i < 22
      · have a := h.2.1 (i - 18) (by omega)
        have b := h'.2.1 (i - 18) (by omega)
        rw [show 18 + (i - 18) = i by omega] at a b
        refine bool_iff (a.trans (Iff.trans ⟨fun q => ⟨q.1, (o.2.1 _ q.1).mp q.2⟩, fun q => ⟨q.1, (o.2.1 _ q.1).mpr q.2⟩⟩ b.symm))
      · by_cases f : i = 22
        · rw [f]
          exact bool_iff (h.2.2.1.trans (Iff.trans (not_congr o.2.2) h'.2.2.1.symm))
        · rw [h.2.2.2 i (by omega), h'.2.2.2 i (by omega)]
theorem gb_one : ∀ i : Fin 32, gb 1 i.val = decide (i.val = 0) := by decide +kernel
theorem c_failedB {N m : Nat} {σ : zS} (m4 : m ≤ 4) (e42 : σ 4 2 = Int32.ofNat m) : zp (zf_Machine_failed N σ) (fun r => (∀ t, t < 4 → (gb r t = true ↔ (t < m ∧ σ 36 t = 5))) ∧ ∀ i, 4 ≤ i → gb r i = false) := by
  have go : ∀ (n t : Nat) (v : Int32), t ≤ m → (∀ u, u < 4 → (gb v u = true ↔ (u < t ∧ σ 36 u = 5))) → (∀ i, 4 ≤ i → gb v i = false) → zp (zb_Machine_failed_4 N n σ v (Int32.ofNat t)) (fun r => (∀ t, t < 4 → (gb r t = true ↔ (t < m ∧ σ 36 t = 5))) ∧ ∀ i, 4 ≤ i → gb r i = false) := by
    intro n
    induction n with
    | zero => intro _ _ _ _ _; exact zp_none
    | succ n ih =>
      intro t v ht h g
      rw [zb_Machine_failed_4, e42]
      unfold zb_Machine_failed_30
      refine zp_ite (fun q => zp_some ?_) fun q => ?_
      · have : m ≤ t := (zo_le (k := m) (j := t) (by omega) (by omega)).mp q
        rw [show m = t by omega]
        exact ⟨h, g⟩
      · have lt : t < m := by
          by_cases c : t < m
          · exact c
          · exact absurd ((zo_le (k := m) (j := t) (by omega) (by omega)).mpr (by omega)) q
        rw [zo_1 (m := t) (by omega)]
        refine zp_bind (zp_mono (c_howOf (by omega)) fun r2 e2 => ?_)
        subst e2
        refine zp_ite (fun ne => ih (t + 1) v (by omega) (fun u hu => ?_) g) fun y => ih (t + 1) _ (by omega) (fun u hu => ?_) fun i hi => ?_
        · rw [h u hu]
          constructor
          · intro k; exact ⟨by omega, k.2⟩
          · intro k
            refine ⟨?_, k.2⟩
            by_cases c : u = t
            · rw [c] at k; exact absurd k.2 ne
            · omega
        · have b : gb (zJ_shl 1 (Int32.ofNat t)) u = decide (u = t) := by
            rw [gb_shl (by omega) (by omega)]
            by_cases c : t ≤ u
            · rw [decide_eq_true c, Bool.true_and, show gb 1 (u - t) = decide (u - t = 0) from gb_one ⟨u - t, by omega⟩]
              by_cases d : u = t
              · rw [decide_eq_true d, decide_eq_true (by omega)]
              · rw [decide_eq_false d, decide_eq_false (by omega)]
            · rw [decide_eq_false c, decide_eq_false (by omega), Bool.false_and]
          rw [gb_or, b]
          by_cases c : u = t
          · rw [decide_eq_true c, Bool.or_true]
            exact ⟨fun _ => ⟨by omega, by rw [c]; exact Classical.not_not.mp y⟩, fun _ => rfl⟩
          · rw [decide_eq_false c, Bool.or_false, h u hu]
            exact ⟨fun k => ⟨by omega, k.2⟩, fun k => ⟨by omega, k.2⟩⟩
        · rw [gb_or, g i hi, Bool.false_or]
          by_cases c : i < 32
          · rw [gb_shl (by omega) c, show gb 1 (i - t) = decide (i - t = 0) from gb_one ⟨i - t, by omega⟩, decide_eq_false (show ¬ i - t = 0 by omega), Bool.and_false]
          · exact gb_ge (by omega)
  unfold zf_Machine_failed
  exact go N 0 0 (by omega) (fun u hu => ⟨fun k => by rw [gb_zero] at k; exact absurd k (by decide), fun k => absurd k.1 (Nat.not_lt_zero _)⟩) fun i _ => gb_zero
theorem c_outcome {N m : Nat} {len : Nat → Nat} {nc : Nat → Nat → Nat} {ρ σ : zS} {w x : Nat → Int32} (m4 : m ≤ 4) (e42 : σ 4 2 = Int32.ofNat m) (st : ST m len nc ρ w x) (ld : LDD m ρ w x σ) : zp (zf_Machine_outcome N σ) (fun r => OCB m (w 0) x r) := by
  have h36 : ∀ t, t < m → σ 36 t = x (15 + 6 * t) := fun t ht => (ld.2.2.1 t ht).1
  have ow : (∀ t, t < m → GON (σ 36 t)) ↔ ∀ t, t < m → GON (x (15 + 6 * t)) := by
    constructor
    · intro h t ht; rw [← h36 t ht]; exact h t ht
    · intro h t ht; rw [h36 t ht]; exact h t ht
  have tail : ∀ s0 : Int32, (s0 = 0 ∨ s0 = 1) → (s0 = 1 ↔ ¬ ∀ t, t < m → GON (x (15 + 6 * t))) → zp (zb_Machine_outcome_12 N σ s0) (fun r => OCB m (w 0) x r) := fun s0 h01 hs => by
    unfold zb_Machine_outcome_12
    refine zp_bind (zp_mono (c_failedB m4 e42) fun r3 h3 => zp_some ?_)
    rw [ld.2.1 0 (by omega)]
    have key : ∀ i, i < 32 → gb (((w 0) ||| (zJ_shl r3 18)) ||| (zJ_shl s0 22)) i = ((gb (w 0) i || (decide (18 ≤ i) && gb r3 (i - 18))) || (decide (22 ≤ i) && gb s0 (i - 22))) := fun i hi => by
      rw [gb_or, gb_or, show (18 : Int32) = Int32.ofNat 18 from rfl, show (22 : Int32) = Int32.ofNat 22 from rfl, gb_shl (by omega) hi, gb_shl (by omega) hi]
    have s00 : ∀ i, 1 ≤ i → i < 32 → gb s0 i = false := fun i a b => by
      rcases h01 with e | e
      · rw [e, gb_zero]
      · rw [e, show gb 1 i = decide (i = 0) from gb_one ⟨i, b⟩, decide_eq_false (by omega)]
    have fw := st.1
    refine ⟨fun i hi => ?_, fun t ht => ?_, ?_, fun i hi => ?_⟩
    · rw [key i (by omega), decide_eq_false (show ¬ 18 ≤ i by omega), decide_eq_false (show ¬ 22 ≤ i by omega)]
      simp
    · rw [key _ (by omega), fw.2.2 (18 + t) (by omega), decide_eq_true (show 18 ≤ 18 + t by omega), decide_eq_false (show ¬ 22 ≤ 18 + t by omega), show 18 + t - 18 = t by omega, Bool.false_or, Bool.true_and, Bool.false_and, Bool.or_false, h3.1 t ht]
      constructor
      · intro k; exact ⟨k.1, by rw [← h36 t k.1]; exact k.2⟩
      · intro k; exact ⟨k.1, by rw [h36 t k.1]; exact k.2⟩
    · rw [key _ (by omega), fw.2.2 22 (by omega), decide_eq_true (show 18 ≤ 22 by omega), decide_eq_true (show 22 ≤ 22 by omega), show 22 - 18 = 4 from rfl, show 22 - 22 = 0 from rfl, h3.2 4 (by omega), Bool.false_or, Bool.true_and, Bool.false_or, Bool.true_and, ← hs]
      rcases h01 with e | e
      · rw [e, gb_zero]; decide
      · rw [e, show gb 1 0 = true from by decide +kernel]; decide
    · by_cases c : i < 32
      · rw [key i c, fw.2.2 i (by omega), h3.2 (i - 18) (by omega), s00 (i - 22) (by omega) (by omega)]
        simp
      · exact gb_ge (by omega)
  unfold zf_Machine_outcome
  refine zp_bind (zp_mono (c_isOver m4 e42) fun r1 h1 => ?_)
  rcases h1 with ⟨e, no⟩ | ⟨e, yes⟩
  · rw [ow] at no
    exact zp_ite (fun _ => tail 1 (Or.inr rfl) ⟨fun _ => no, fun _ => rfl⟩) fun q => absurd e q
  · rw [ow] at yes
    exact zp_ite (fun q => absurd (e.symm.trans q) (by decide)) fun _ => tail 0 (Or.inl rfl) ⟨fun k => absurd k (by decide), fun k => absurd yes k⟩
def hco (c : Int32) : Nat := (((c * (-1640531535)) ^^^ (zJ_ushr (c * (-1640531535)) 15)) &&& 8191).toNatClampNeg
theorem hco_lt (c : Int32) : hco c < 8192 := by
  have b := z_and ((c * (-1640531535)) ^^^ (zJ_ushr (c * (-1640531535)) 15)) 8191 (by decide)
  have n := z_nat b.1
  have l := Int32.le_iff_toInt_le.mp b.2
  have k : (8191 : Int32).toInt = 8191 := rfl
  unfold hco
  omega
def OTB (n : Nat) (σ : zS) : Prop := n ≤ 4000 ∧ σ 59 1 = Int32.ofNat n ∧ (∀ p, p < 8192 → σ 63 p = 0 ∨ ∃ s, s < n ∧ σ 63 p = Int32.ofNat (s + 1)) ∧ (∀ s, s < n → ∃ k, k < 8192 ∧ σ 63 ((hco (σ 60 s) + k) % 8192) = Int32.ofNat (s + 1) ∧ ∀ j, j < k → ¬ σ 63 ((hco (σ 60 s) + j) % 8192) = 0) ∧ (∀ p q, p < 8192 → q < 8192 → ¬ σ 63 p = 0 → σ 63 p = σ 63 q → p = q)
theorem g_59 {σ : zS} {n s : Nat} (h : σ 59 1 = Int32.ofNat n) (hn : n ≤ 4000) (hs : s < n) : zp (zf_Numbers_get σ (Int32.ofNat s)) (fun r => r = σ 60 s) := by
  unfold zf_Numbers_get zb_Numbers_get_21
  rw [h, zo_n (m := s) (by omega)]
  refine zp_ite (fun q => ?_) fun _ => zp_ite (fun q => ?_) fun _ => zp_ite (fun _ => zp_chk fun _ => zp_some rfl) fun q => absurd ((zo_lt (k := s) (j := 4000) (by omega) (by omega)).mpr (by omega)) q
  · have := (zo_lt (k := s) (j := 0) (by omega) (by omega)).mp q
    omega
  · have := (zo_le (k := n) (j := s) (by omega) (by omega)).mp q
    omega
def PRO6 (n : Nat) (c : Int32) (σ : zS) (r : Int32) : Prop := ∃ p, p < 8192 ∧ r = Int32.ofNat p ∧ ((σ 63 p = 0 ∧ (∀ s, s < n → ¬ σ 60 s = c) ∧ ∃ k, k < 8192 ∧ p = (hco c + k) % 8192 ∧ ∀ j, j < k → ¬ σ 63 ((hco c + j) % 8192) = 0) ∨ (¬ σ 63 p = 0 ∧ ∃ s, s < n ∧ σ 60 s = c))
theorem c_probeO {N n : Nat} {c : Int32} {σ : zS} (cb : OTB n σ) : ∀ (m j : Nat), j ≤ 8192 → (∀ j', j' < j → ¬ σ 63 ((hco c + j') % 8192) = 0 ∧ ∀ s, s < n → σ 63 ((hco c + j') % 8192) = Int32.ofNat (s + 1) → ¬ σ 60 s = c) → zp (zb_Outcomes_slotOf_19 N m σ c (Int32.ofNat ((hco c + j) % 8192)) (Int32.ofNat j)) (fun r => PRO6 n c σ r) := by
  obtain ⟨n4, h6, c3, c4, c5⟩ := cb
  intro m
  induction m with
  | zero => intro _ _ _; exact zp_none
  | succ m ih =>
    intro j hj inv
    rw [zb_Outcomes_slotOf_19]
    refine zp_ite (fun q => ?_) fun q => zp_chk fun _ => ?_
    · exfalso
      have j8 := (zo_le (k := 8192) (j := j) (by omega) (by omega)).mp q
      have fv : ∀ i, i < 8192 → ∃ s, s < n ∧ σ 63 ((hco c + i) % 8192) = Int32.ofNat (s + 1) := fun i hi => (c3 _ (Nat.mod_lt _ (by decide))).resolve_left (inv i (by omega)).1
      obtain ⟨i, k, ik, k8, e⟩ := z_pigeon n 8192 (fun i => (σ 63 ((hco c + i) % 8192)).toNatClampNeg - 1) (by omega) fun i hi => by
        obtain ⟨s, hs, e⟩ := fv i hi
        rw [e, zo_n (by omega)]
        omega
      obtain ⟨s, hs, es⟩ := fv i (by omega)
      obtain ⟨s', hs', es'⟩ := fv k k8
      rw [es, es', zo_n (by omega), zo_n (by omega)] at e
      have ss : s = s' := by omega
      have pq := c5 _ _ (Nat.mod_lt (hco c + i) (by decide)) (Nat.mod_lt (hco c + k) (by decide)) (inv i (by omega)).1 (by rw [es, es', ss])
      omega
    · have j8 : j < 8192 := by
        by_cases cc : j < 8192
        · exact cc
        · exact absurd ((zo_le (k := 8192) (j := j) (by omega) (by omega)).mpr (by omega)) q
      have p8 : (hco c + j) % 8192 < 8192 := Nat.mod_lt _ (by decide)
      rw [zo_n (m := (hco c + j) % 8192) (by omega)]
      refine zp_ite (fun z => zp_some ⟨_, p8, rfl, Or.inl ⟨z, fun s hs same => ?_, j, j8, rfl, fun j' h' => (inv j' h').1⟩⟩) fun z => zp_chk fun _ => ?_
      · obtain ⟨k, k8, e, bef⟩ := c4 s hs
        rw [same] at e bef
        by_cases cc : k < j
        · exact (inv k cc).2 s hs e same
        · by_cases d : k = j
          · rw [d, z] at e
            have := zo_inj (k := 0) (j := s + 1) (by omega) (by omega) e
            omega
          · exact bef j (by omega) z
      · obtain ⟨s, hs, e⟩ := (c3 _ p8).resolve_left z
        have e1 : σ 63 ((hco c + j) % 8192) - 1 = Int32.ofNat s := by rw [e, zo_pred (by omega) (by omega)]; rfl
        rw [e1]
        refine zp_bind (zp_mono (g_59 h6 n4 hs) fun r6 h => zp_ite (fun y => ?_) fun y => zp_some ⟨_, p8, rfl, Or.inr ⟨z, s, hs, h.symm.trans (Classical.not_not.mp y)⟩⟩)
        · have h2 : ¬ σ 60 s = c := fun e' => y (h.trans e')
          · rw [zo_1 (by omega), zo_1 (by omega), z_mask (by omega), show ((hco c + j) % 8192 + 1) % 8192 = (hco c + (j + 1)) % 8192 by omega]
            refine ih (j + 1) (by omega) fun j' h' => ?_
            by_cases cc : j' = j
            · rw [cc]
              refine ⟨z, fun s' hs' e' => ?_⟩
              have : s' = s := by
                have := zo_inj (k := s' + 1) (j := s + 1) (by omega) (by omega) (e'.symm.trans e)
                omega
              rw [this]
              exact h2
            · exact inv j' (by omega)
theorem OTB.add {n p : Nat} {c : Int32} {σ r : zS} (cb : OTB n σ) (n4 : n < 4000) (p8 : p < 8192) (z : σ 63 p = 0) (bef : ∃ k, k < 8192 ∧ p = (hco c + k) % 8192 ∧ ∀ j, j < k → ¬ σ 63 ((hco c + j) % 8192) = 0) (e6 : r 59 1 = Int32.ofNat (n + 1)) (e63 : r 63 = zu (σ 63) p (Int32.ofNat (n + 1))) (en : r 60 n = c) (eo : ∀ s, s < n → r 60 s = σ 60 s) : OTB (n + 1) r := by
  obtain ⟨_, h6, c3, c4, c5⟩ := cb
  have nz : ∀ q, ¬ σ 63 q = 0 → ¬ r 63 q = 0 ∧ r 63 q = σ 63 q := fun q hq => by
    have ne : q ≠ p := fun e => hq (by rw [e]; exact z)
    rw [e63, zu_ne ne]
    exact ⟨hq, rfl⟩
  have at_ : r 63 p = Int32.ofNat (n + 1) := by rw [e63, zu_eq]
  refine ⟨by omega, e6, fun q hq => ?_, fun s hs => ?_, fun a b ha hb na e => ?_⟩
  · by_cases d : q = p
    · exact Or.inr ⟨n, by omega, by rw [d]; exact at_⟩
    · rw [e63, zu_ne d]
      rcases c3 q hq with h | ⟨s, hs, h⟩
      · exact Or.inl h
      · exact Or.inr ⟨s, by omega, h⟩
  · by_cases d : s = n
    · subst d
      obtain ⟨k, k8, ep, bf⟩ := bef
      rw [en]
      exact ⟨k, k8, by rw [← ep]; exact at_, fun j hj => (nz _ (bf j hj)).1⟩
    · obtain ⟨k, k8, e, bf⟩ := c4 s (by omega)
      rw [eo s (by omega)]
      have ne : ¬ σ 63 ((hco (σ 60 s) + k) % 8192) = 0 := by
        rw [e]
        intro q
        have := zo_inj (k := s + 1) (j := 0) (by omega) (by omega) q
        omega
      exact ⟨k, k8, by rw [(nz _ ne).2]; exact e, fun j hj => (nz _ (bf j hj)).1⟩
  · have old : ∀ q, q < 8192 → ¬ r 63 q = 0 → q ≠ p → ∃ s, s < n ∧ σ 63 q = Int32.ofNat (s + 1) ∧ r 63 q = σ 63 q := fun q hq nq d => by
      have e' : r 63 q = σ 63 q := by rw [e63, zu_ne d]
      rw [e'] at nq
      obtain ⟨s, hs, h⟩ := (c3 q hq).resolve_left nq
      exact ⟨s, hs, h, e'⟩
    by_cases ca : a = p
    · by_cases cb' : b = p
      · rw [ca, cb']
      · obtain ⟨s, hs, h, e'⟩ := old b hb (by rw [← e]; exact na) cb'
        rw [ca, at_, e', h] at e
        have := zo_inj (k := n + 1) (j := s + 1) (by omega) (by omega) e
        omega
    · obtain ⟨s, hs, h, e'⟩ := old a ha na ca
      by_cases cb' : b = p
      · rw [cb', at_, e', h] at e
        have := zo_inj (k := s + 1) (j := n + 1) (by omega) (by omega) e
        omega
      · obtain ⟨s', hs', h', e''⟩ := old b hb (by rw [← e]; exact na) cb'
        refine c5 a b ha hb ?_ (by rw [← e', ← e'']; exact e)
        rw [← e']
        exact na
theorem c_onote {N n y : Nat} {c : Int32} {σ : zS} {L : List Nat} (ot : OTB n σ) (nl : L.length = n) (n4 : n < 4000) (sl : STL (σ 61 1) (σ 62) L) : zp (zf_Outcomes_note N σ c (Int32.ofNat y)) (fun r => ((∃ s, s < n ∧ σ 60 s = c) ∧ r = σ) ∨ ((∀ s, s < n → ¬ σ 60 s = c) ∧ OTB (n + 1) r ∧ STL (r 61 1) (r 62) (L ++ [y]) ∧ r 60 = zu (σ 60) n c ∧ ∀ q, q ≠ 59 → q ≠ 60 → q ≠ 61 → q ≠ 62 → q ≠ 63 → r q = σ q)) := by
  unfold zf_Outcomes_note zf_Outcomes_slotOf
  have e0 : ((c * (-1640531535)) ^^^ (zJ_ushr (c * (-1640531535)) 15)) &&& 8191 = Int32.ofNat (hco c) := (zo_mk (z_and _ 8191 (by decide)).1).symm
  have l := hco_lt c
  have h := c_probeO (N := N) (c := c) ot N 0 (by omega) fun j' h' => absurd h' (Nat.not_lt_zero _)
  rw [show (hco c + 0) % 8192 = hco c by omega] at h
  rw [e0]
  refine zp_bind (zp_mono h fun r1 h1 => ?_)
  obtain ⟨p, p8, e, h1⟩ := h1
  subst e
  rw [zo_n (m := p) (by omega)]
  rcases h1 with ⟨z, no, bef⟩ | ⟨nz, s, hs, same⟩
  · refine zp_chk fun _ => zp_ite (fun q => absurd z q) fun _ => ?_
    have g59 := ot.2.1
    unfold zf_Numbers_add_c2
    rw [g59]
    refine zp_bind (zp_ite (fun q => ?_) fun _ => zp_ite (fun q => ?_) fun _ => zp_chk fun _ => zp_some ?_)
    · have := (zo_lt (k := n) (j := 0) (by omega) (by omega)).mp q
      omega
    · have := (zo_le (k := 4000) (j := n) (by omega) (by omega)).mp q
      omega
    · rw [zo_n (m := n) (by omega), zo_1 (m := n) (by omega)]
      refine zp_bind (zp_mono (a_61 (σ := zx_up (zx_up σ 60 n c) 59 1 (Int32.ofNat (n + 1))) (L := L) (y := y) (by rw [zu_other (by decide), zu_other (by decide), zu_other (by decide), zu_other (by decide)]; exact sl) (by omega)) fun r5 h5 => zp_chk fun _ => zp_some (Or.inr ⟨no, ?_, ?_, ?_, fun q a b c d e => ?_⟩))
      · have k59 : r5 59 = zu (σ 59) 1 (Int32.ofNat (n + 1)) := by rw [h5.2 59 (by decide) (by decide), zx_up_same, zu_other (by decide)]
        have k60 : r5 60 = zu (σ 60) n c := by rw [h5.2 60 (by decide) (by decide), zu_other (by decide), zx_up_same]
        have k63 : r5 63 = σ 63 := by rw [h5.2 63 (by decide) (by decide), zu_other (by decide), zu_other (by decide)]
        refine ot.add n4 p8 z bef ?_ ?_ ?_ fun s hs => ?_
        · rw [zu_other (by decide), k59, zu_eq]
        · rw [zx_up_same, k63, k59, zu_eq]
        · rw [zu_other (by decide), k60, zu_eq]
        · rw [zu_other (by decide), k60, zu_ne (by omega)]
      · rw [zu_other (by decide), zu_other (by decide)]
        exact h5.1
      · rw [zu_other (by decide), h5.2 60 (by decide) (by decide), zu_other (by decide), zx_up_same]
      · rw [zu_other e, h5.2 q c d, zu_other a, zu_other b]
  · exact zp_chk fun _ => zp_ite (fun _ => zp_some (Or.inl ⟨⟨s, hs, same⟩, rfl⟩)) fun q => absurd nz q
