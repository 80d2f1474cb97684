-- both answer alike
set_option maxRecDepth 2000
noncomputable def hil (p : Prop) (x : Nat) : List Nat := @ite (List Nat) p (Classical.propDecidable p) [x] []
theorem hil_y {p : Prop} {x : Nat} (h : p) : hil p x = [x] := by unfold hil; rw [if_pos h]
theorem hil_n {p : Prop} {x : Nat} (h : ¬ p) : hil p x = [] := by unfold hil; rw [if_neg h]
noncomputable def lst (p : Nat → Prop) : Nat → Nat → List Nat
  | _, 0 => []
  | a, n + 1 => hil (p a) a ++ lst p (a + 1) n
theorem lst_len {p : Nat → Prop} : ∀ (n a : Nat), (lst p a n).length ≤ n := by
  intro n
  induction n with
  | zero => intro a; rw [lst]; exact Nat.le_refl _
  | succ n ih =>
    intro a
    rw [lst, List.length_append]
    have := ih (a + 1)
    by_cases c : p a
    · rw [hil_y c]; show 1 + _ ≤ _; omega
    · rw [hil_n c]; show 0 + _ ≤ _; omega
theorem lst_snoc {p : Nat → Prop} : ∀ (n a : Nat), lst p a (n + 1) = lst p a n ++ hil (p (a + n)) (a + n) := by
  intro n
  induction n with
  | zero => intro a; rw [lst, lst, lst, List.append_nil, List.nil_append, Nat.add_zero]
  | succ n ih =>
    intro a
    rw [lst, ih (a + 1), ← List.append_assoc, show a + 1 + n = a + (n + 1) by omega]
    rfl
theorem lst_congr {p q : Nat → Prop} : ∀ (n a : Nat), (∀ s, a ≤ s → s < a + n → (p s ↔ q s)) → lst p a n = lst q a n := by
  intro n
  induction n with
  | zero => intro a _; rw [lst, lst]
  | succ n ih =>
    intro a h
    rw [lst, lst, ih (a + 1) fun s x y => h s (by omega) (by omega)]
    have k := h a (by omega) (by omega)
    by_cases c : p a
    · rw [hil_y c, hil_y (k.mp c)]
    · rw [hil_n c, hil_n fun d => c (k.mpr d)]
theorem lst_mem {p : Nat → Prop} : ∀ (n a y : Nat), y ∈ lst p a n ↔ (a ≤ y ∧ y < a + n ∧ p y) := by
  intro n
  induction n with
  | zero => intro a y; rw [lst]; exact ⟨fun h => absurd h List.not_mem_nil, fun h => by omega⟩
  | succ n ih =>
    intro a y
    rw [lst, List.mem_append, ih (a + 1) y]
    by_cases c : p a
    · rw [hil_y c, List.mem_singleton]
      constructor
      · rintro (e | h)
        · rw [e]; exact ⟨by omega, by omega, c⟩
        · exact ⟨by omega, by omega, h.2.2⟩
      · intro h
        by_cases e : y = a
        · exact Or.inl e
        · exact Or.inr ⟨by omega, by omega, h.2.2⟩
    · rw [hil_n c]
      constructor
      · rintro (e | h)
        · exact absurd e List.not_mem_nil
        · exact ⟨by omega, by omega, h.2.2⟩
      · intro h
        by_cases e : y = a
        · rw [e] at h; exact absurd h.2.2 c
        · exact Or.inr ⟨by omega, by omega, h.2.2⟩
def STL (c : Int32) (arr : Nat → Int32) (L : List Nat) : Prop := c = Int32.ofNat L.length ∧ ∀ (i y : Nat), L[i]? = some y → arr i = Int32.ofNat y
theorem STL.nil {arr : Nat → Int32} : STL 0 arr [] := ⟨rfl, fun i y e => by rw [List.getElem?_nil] at e; cases e⟩
theorem STL.snoc {c : Int32} {arr : Nat → Int32} {L : List Nat} {y : Nat} (h : STL c arr L) : STL (Int32.ofNat (L.length + 1)) (zu arr L.length (Int32.ofNat y)) (L ++ [y]) := by
  refine ⟨by rw [List.length_append]; rfl, fun i x e => ?_⟩
  by_cases c : i < L.length
  · rw [List.getElem?_append_left c] at e
    rw [zu_ne (by omega)]
    exact h.2 i x e
  · rw [List.getElem?_append_right (by omega)] at e
    have z : i - L.length = 0 := by
      by_cases k : i - L.length = 0
      · exact k
      · rw [List.getElem?_eq_none (by show 1 ≤ i - L.length; omega)] at e
        cases e
    rw [z] at e
    have ey : y = x := by
      have : some y = some x := e
      injection this
    rw [show i = L.length by omega, zu_eq, ey]
def UPD (f g : Nat → Int32) (d v : Int32) (R : Nat → Prop) : Prop := ∀ p, p < 9216 → (R p → g p = if f p = d then v else f p) ∧ (¬ R p → g p = f p)
theorem UPD.same {f g : Nat → Int32} {d v : Int32} {R R' : Nat → Prop} (h : UPD f g d v R) (e : ∀ p, R' p ↔ R p) : UPD f g d v R' := fun p hp => ⟨fun k => (h p hp).1 ((e p).mp k), fun k => (h p hp).2 fun r => k ((e p).mpr r)⟩
theorem UPD.no {f g : Nat → Int32} {d v : Int32} {R R' : Nat → Prop} {P0 : Nat} (h : UPD f g d v R) (hP : P0 < 9216) (nR : ¬ R P0) (e : ∀ p, R' p ↔ (R p ∨ p = P0)) (ne : ¬ g P0 = d) : UPD f g d v R' := fun p hp => by
  by_cases c : p = P0
  · subst c
    have k := (h p hp).2 nR
    refine ⟨fun _ => ?_, fun n => absurd ((e p).mpr (Or.inr rfl)) n⟩
    rw [if_neg (by rw [← k]; exact ne)]
    exact k
  · exact ⟨fun k => (h p hp).1 (((e p).mp k).resolve_right c), fun k => (h p hp).2 fun r => k ((e p).mpr (Or.inl r))⟩
theorem UPD.yes {f g : Nat → Int32} {d v : Int32} {R R' : Nat → Prop} {P0 : Nat} (h : UPD f g d v R) (hP : P0 < 9216) (nR : ¬ R P0) (e : ∀ p, R' p ↔ (R p ∨ p = P0)) (eq : g P0 = d) : UPD f (zu g P0 v) d v R' := fun p hp => by
  by_cases c : p = P0
  · subst c
    have k := (h p hp).2 nR
    refine ⟨fun _ => ?_, fun n => absurd ((e p).mpr (Or.inr rfl)) n⟩
    rw [zu_eq, if_pos (by rw [← k]; exact eq)]
  · rw [zu_ne c]
    exact ⟨fun k => (h p hp).1 (((e p).mp k).resolve_right c), fun k => (h p hp).2 fun r => k ((e p).mpr (Or.inl r))⟩
def LEA (g : Nat → Int32) (d : Int32) (val : Nat → Int32) (R : Nat → Nat → Prop) (S : Nat) : Prop := ∀ p, p < 9216 → (g p = d ∧ ∀ s, s < S → ¬ R s p) ∨ ∃ s, s < S ∧ g p = val s ∧ R s p ∧ ∀ s', s' < s → ¬ R s' p
theorem LEA.step {g g' : Nat → Int32} {d : Int32} {val : Nat → Int32} {R : Nat → Nat → Prop} {S : Nat} (h : LEA g d val R S) (nv : ∀ s, s < S → ¬ val s = d) (u : UPD g g' d (val S) (R S)) : LEA g' d val R (S + 1) := fun p hp => by
  rcases h p hp with ⟨e, no⟩ | ⟨s, hs, e, y, no⟩
  · by_cases c : R S p
    · refine Or.inr ⟨S, by omega, ?_, c, fun s' hs' => no s' hs'⟩
      rw [(u p hp).1 c, if_pos e]
    · refine Or.inl ⟨((u p hp).2 c).trans e, fun s hs => ?_⟩
      by_cases k : s = S
      · rw [k]; exact c
      · exact no s (by omega)
  · refine Or.inr ⟨s, by omega, ?_, y, no⟩
    by_cases c : R S p
    · rw [(u p hp).1 c, if_neg (by rw [e]; exact nv s hs)]
      exact e
    · exact ((u p hp).2 c).trans e
theorem LEA.zero {g : Nat → Int32} {d : Int32} {val : Nat → Int32} {R : Nat → Nat → Prop} (h : ∀ p, p < 9216 → g p = d) : LEA g d val R 0 := fun p hp => Or.inl ⟨h p hp, fun s hs => absurd hs (Nat.not_lt_zero _)⟩
def RPo (m : Nat) (σ : zS) (x : Nat → Int32) (a b p : Nat) : Prop := ∃ za zb, (a < b ∧ b < m) ∧ (za < 24 ∧ zb < 24) ∧ (x (15 + 6 * a) = 1 ∧ x (15 + 6 * b) = 1) ∧ (x (14 + 6 * a) = Int32.ofNat za ∧ x (14 + 6 * b) = Int32.ofNat zb) ∧ CLS σ (24 * a + za) (24 * b + zb) ∧ p = 96 * (24 * a + za) + (24 * b + zb)
def RPq (m : Nat) (σ : zS) (x : Nat → Int32) (A B p : Nat) : Prop := ∃ a b, (a < A ∨ (a = A ∧ b < B)) ∧ RPo m σ x a b p
def RPA (m : Nat) (σ : zS) (x : Nat → Int32) (p : Nat) : Prop := ∃ a b, RPo m σ x a b p
theorem RPo_inj {m a b a' b' p : Nat} {σ : zS} {x : Nat → Int32} (m4 : m ≤ 4) (h : RPo m σ x a b p) (h' : RPo m σ x a' b' p) : a = a' ∧ b = b' := by
  obtain ⟨za, zb, h1, h2, _, _, _, e⟩ := h
  obtain ⟨za', zb', k1, k2, _, _, _, e'⟩ := h'
  omega
theorem RPq_suc {m A B p : Nat} {σ : zS} {x : Nat → Int32} : RPq m σ x A (B + 1) p ↔ (RPq m σ x A B p ∨ RPo m σ x A B p) := by
  constructor
  · rintro ⟨a, b, k, h⟩
    by_cases c : a = A ∧ b = B
    · rw [c.1, c.2] at h
      exact Or.inr h
    · exact Or.inl ⟨a, b, by omega, h⟩
  · rintro (⟨a, b, k, h⟩ | h)
    · exact ⟨a, b, by omega, h⟩
    · exact ⟨A, B, Or.inr ⟨rfl, by omega⟩, h⟩
theorem RPq_next {m A p : Nat} {σ : zS} {x : Nat → Int32} : RPq m σ x (A + 1) (A + 2) p ↔ RPq m σ x A m p := by
  constructor
  · rintro ⟨a, b, k, h⟩
    have l := h
    obtain ⟨_, _, ⟨l1, l2⟩, _⟩ := l
    exact ⟨a, b, by omega, h⟩
  · rintro ⟨a, b, k, h⟩
    exact ⟨a, b, by omega, h⟩
theorem RPq_init {m p : Nat} {σ : zS} {x : Nat → Int32} : ¬ RPq m σ x 0 1 p := by
  rintro ⟨a, b, k, h⟩
  obtain ⟨_, _, ⟨l1, l2⟩, _⟩ := h
  omega
theorem RPq_all {m A p : Nat} {σ : zS} {x : Nat → Int32} (h : m ≤ A) : RPq m σ x A (A + 1) p ↔ RPA m σ x p := by
  constructor
  · rintro ⟨a, b, _, h⟩
    exact ⟨a, b, h⟩
  · rintro ⟨a, b, h'⟩
    have l := h'
    obtain ⟨_, _, ⟨l1, l2⟩, _⟩ := l
    exact ⟨a, b, by omega, h'⟩
theorem CLS.of {σ r : zS} {v w : Nat} (h : CLS σ v w) (e : ∀ q, q = 4 ∨ q = 7 ∨ q = 8 → r q = σ q) : CLS r v w := by
  unfold CLS at *
  rw [e 4 (by decide), e 7 (by decide), e 8 (by decide)]
  exact h
theorem ST.running {m t : Nat} {len : Nat → Nat} {nc : Nat → Nat → Nat} {ρ : zS} {w x : Nat → Int32} (st : ST m len nc ρ w x) (ht : t < m) (v : x (15 + 6 * t) = 1) : ∃ z, z < len t ∧ x (14 + 6 * t) = Int32.ofNat z := by
  rcases st.2.2.2.1 t ht with k | ⟨_, z, k1, k2⟩ | ⟨k, _⟩ | k
  · rw [v] at k; exact absurd k.1 (by decide)
  · exact ⟨z, k1, k2⟩
  · rw [v] at k; rcases k with k | k <;> exact absurd k (by decide)
  · rw [v] at k; exact absurd k.1 (by decide)
theorem zo_slot2 {t z : Nat} (ht : t ≤ 4) (hz : z ≤ 24) : Int32.ofNat t * 24 + Int32.ofNat z = Int32.ofNat (24 * t + z) := by
  show Int32.ofNat t * Int32.ofNat 24 + Int32.ofNat z = _
  rw [← Int32.ofNat_mul, ← Int32.ofNat_add, Nat.mul_comm]
theorem zo_pair2 {v w : Nat} (hv : v ≤ 96) (hw : w ≤ 96) : Int32.ofNat v * 96 + Int32.ofNat w = Int32.ofNat (96 * v + w) := by
  show Int32.ofNat v * Int32.ofNat 96 + Int32.ofNat w = _
  rw [← Int32.ofNat_mul, ← Int32.ofNat_add, Nat.mul_comm]
theorem zo_pair {v w : Nat} (hv : v ≤ 96) (hw : w ≤ 96) : 96 * Int32.ofNat v + Int32.ofNat w = Int32.ofNat (96 * v + w) := by
  show Int32.ofNat 96 * Int32.ofNat v + Int32.ofNat w = _
  rw [← Int32.ofNat_mul, ← Int32.ofNat_add]
theorem c_noteRace {m s a b za zb : Nat} {len : Nat → Nat} {σ ν : zS} {x f : Nat → Int32} (m4 : m ≤ 4) (pj : PJ σ m len) (fd : FLD σ) (l24 : ∀ t, t < m → len t ≤ 24) (fr : ∀ q, q ≠ 57 → ν q = σ q) (ab : a < b ∧ b < m) (hz : za < len a ∧ zb < len b) (hr : x (15 + 6 * a) = 1 ∧ x (15 + 6 * b) = 1) (hs : x (14 + 6 * a) = Int32.ofNat za ∧ x (14 + 6 * b) = Int32.ofNat zb) (u : UPD f (ν 57) (-1) (Int32.ofNat s) (RPq m σ x a b)) : zp (zf_Findings_noteRace ν (Int32.ofNat (24 * a + za)) (Int32.ofNat (24 * b + zb)) (Int32.ofNat s)) (fun r => (∀ q, q ≠ 57 → r q = σ q) ∧ UPD f (r 57) (-1) (Int32.ofNat s) (RPq m σ x a (b + 1))) := by
  have la := l24 a (by omega)
  have lb := l24 b ab.2
  have pj' : PJ ν m len := pj.of (fun q hq => fr q (by omega)) (by rw [fr 82 (by decide)])
  have fd' : FLD ν := ⟨fd.1.of (by rw [fr 4 (by decide)]) (fr 5 (by decide)) (fr 7 (by decide)) (fr 8 (by decide)), fd.2.1.of (by rw [fr 4 (by decide)]) (by rw [fr 4 (by decide)]) (fr 88 (by decide)), by rw [fr 4 (by decide)]; exact fd.2.2⟩
  have sv : SLV m len (24 * a + za) := ⟨by omega, by rw [show (24 * a + za) / 24 = a by omega]; omega⟩
  have sw : SLV m len (24 * b + zb) := ⟨by omega, by rw [show (24 * b + zb) / 24 = b by omega]; omega⟩
  have P0 : 96 * (24 * a + za) + (24 * b + zb) < 9216 := by omega
  unfold zf_Findings_noteRace
  rw [zo_pair2 (v := 24 * a + za) (w := 24 * b + zb) (by omega) (by omega), zo_n (m := 96 * (24 * a + za) + (24 * b + zb)) (by omega)]
  refine zp_bind (zp_mono (p_clash pj' fd' sv sw) fun r1 h1 => zp_ite (fun z => zp_some ⟨fr, u.same fun p => ?_⟩) fun nz => zp_ite (fun q => ?_) fun _ => zp_ite (fun q => ?_) fun _ => zp_chk fun _ => ?_)
  · rw [RPq_suc]
    refine ⟨fun k => k.resolve_right fun o => ?_, Or.inl⟩
    obtain ⟨za', zb', _, _, _, ⟨e1, e2⟩, cl, _⟩ := o
    have ea : za' = za := zo_inj (by omega) (by omega) (e1.symm.trans hs.1)
    have eb : zb' = zb := zo_inj (by omega) (by omega) (e2.symm.trans hs.2)
    rw [ea, eb] at cl
    exact h1.n z (cl.of fun q hq => fr q (by omega))
  · have := (zo_lt (k := 96 * (24 * a + za) + (24 * b + zb)) (j := 0) (by omega) (by omega)).mp q
    omega
  · have := (zo_le (k := 9216) (j := 96 * (24 * a + za) + (24 * b + zb)) (by omega) (by omega)).mp q
    omega
  · have cl : CLS σ (24 * a + za) (24 * b + zb) := (h1.y nz).of fun q hq => (fr q (by omega)).symm
    have o : RPo m σ x a b (96 * (24 * a + za) + (24 * b + zb)) := ⟨za, zb, ab, ⟨by omega, by omega⟩, hr, hs, cl, rfl⟩
    have nR : ¬ RPq m σ x a b (96 * (24 * a + za) + (24 * b + zb)) := fun ⟨a', b', k, o'⟩ => by
      have := RPo_inj m4 o o'
      omega
    have e : ∀ p, RPq m σ x a (b + 1) p ↔ (RPq m σ x a b p ∨ p = 96 * (24 * a + za) + (24 * b + zb)) := fun p => by
      rw [RPq_suc]
      constructor
      · rintro (k | o')
        · exact Or.inl k
        · obtain ⟨za', zb', _, _, _, ⟨e1, e2⟩, _, e3⟩ := o'
          have ea : za' = za := zo_inj (by omega) (by omega) (e1.symm.trans hs.1)
          have eb : zb' = zb := zo_inj (by omega) (by omega) (e2.symm.trans hs.2)
          rw [ea, eb] at e3
          exact Or.inr e3
      · rintro (k | k)
        · exact Or.inl k
        · rw [k]; exact Or.inr o
    refine zp_ite (fun ne => zp_some ⟨fr, u.no P0 nR e ne⟩) fun eq => zp_chk fun _ => zp_some ⟨fun q hq => by rw [zu_other hq]; exact fr q hq, ?_⟩
    rw [zx_up_same]
    exact u.yes P0 nR e (Classical.not_not.mp eq)
theorem c_noteRaces {N m s : Nat} {len : Nat → Nat} {nc : Nat → Nat → Nat} {ρ μ σ : zS} {w x : Nat → Int32} (pc : PC m len nc ρ μ) (st : ST m len nc ρ w x) (ld : LDD m ρ w x σ) (pj : PJ σ m len) (fd : FLD σ) : zp (zf_Findings_noteRaces N σ (Int32.ofNat s)) (fun r => (∀ q, q ≠ 57 → r q = σ q) ∧ UPD (σ 57) (r 57) (-1) (Int32.ofNat s) (RPA m σ x)) := by
  have m4 := pc.1.1
  have l24 : ∀ t, t < m → len t ≤ 24 := fun t ht => (pc.2.1 t ht).1
  have e42 : σ 4 2 = Int32.ofNat m := by rw [ld.1 4 (by decide) (by decide)]; exact pc.1.2.1
  have h36 : ∀ t, t < m → σ 36 t = x (15 + 6 * t) := fun t ht => (ld.2.2.1 t ht).1
  have stp : ∀ t, t < m → ∀ ν : zS, ν 39 = σ 39 → zp (zf_Machine_stepOf ν (Int32.ofNat t)) (fun r => r = x (14 + 6 * t)) := fun t ht ν e => by
    unfold zf_Machine_stepOf
    refine zp_bind (zp_mono (c_wordOf (by omega)) fun r1 e1 => zp_some ?_)
    rw [e1, e, ld.2.1 (t + 1) (by omega)]
    exact (st.2.1 t ht).stp
  have out : ∀ (n A : Nat) (ν : zS), A ≤ m → (∀ q, q ≠ 57 → ν q = σ q) → UPD (σ 57) (ν 57) (-1) (Int32.ofNat s) (RPq m σ x A (A + 1)) → zp (zb_Findings_noteRaces_2 N n ν (Int32.ofNat s) (Int32.ofNat A)) (fun r => (∀ q, q ≠ 57 → r q = σ q) ∧ UPD (σ 57) (r 57) (-1) (Int32.ofNat s) (RPA m σ x)) := by
    intro n
    induction n with
    | zero => intro _ _ _ _ _; exact zp_none
    | succ n ih =>
      intro A ν hA fr u
      rw [zb_Findings_noteRaces_2, fr 4 (by decide), e42]
      refine zp_ite (fun q => zp_some ⟨fr, u.same fun p => (RPq_all ?_).symm⟩) fun q => ?_
      · exact (zo_le (k := m) (j := A) (by omega) (by omega)).mp q
      · have lt : A < m := by
          by_cases c : A < m
          · exact c
          · exact absurd ((zo_le (k := m) (j := A) (by omega) (by omega)).mpr (by omega)) q
        have inn : ∀ (i B : Nat) (ν : zS), A < B → B ≤ m → (∀ q, q ≠ 57 → ν q = σ q) → UPD (σ 57) (ν 57) (-1) (Int32.ofNat s) (RPq m σ x A B) → zp (zb_Findings_noteRaces_17 (zb_Findings_noteRaces_2 N n) N i ν (Int32.ofNat s) (Int32.ofNat A) (Int32.ofNat B)) (fun r => (∀ q, q ≠ 57 → r q = σ q) ∧ UPD (σ 57) (r 57) (-1) (Int32.ofNat s) (RPA m σ x)) := by
          intro i
          induction i with
          | zero => intro _ _ _ _ _ _; exact zp_none
          | succ i ihi =>
            intro B ν hAB hB fr u
            rw [zb_Findings_noteRaces_17, fr 4 (by decide), e42]
            unfold zb_Findings_noteRaces_83
            rw [zo_1 (m := A) (by omega), zo_1 (m := B) (by omega)]
            refine zp_ite (fun q => ih (A + 1) ν (by omega) fr (u.same fun p => ?_)) fun q => ?_
            · have : m ≤ B := (zo_le (k := m) (j := B) (by omega) (by omega)).mp q
              rw [show B = m by omega]
              exact RPq_next
            · have lB : B < m := by
                by_cases c : B < m
                · exact c
                · exact absurd ((zo_le (k := m) (j := B) (by omega) (by omega)).mpr (by omega)) q
              have skip : ¬ (x (15 + 6 * A) = 1 ∧ x (15 + 6 * B) = 1) → ∀ p, RPq m σ x A (B + 1) p ↔ RPq m σ x A B p := fun k p => by
                rw [RPq_suc]
                refine ⟨fun h => h.resolve_right fun o => ?_, Or.inl⟩
                obtain ⟨_, _, _, _, r, _⟩ := o
                exact k r
              refine zp_bind (zp_mono (c_howOf (by omega)) fun r3 e3 => ?_)
              rw [fr 36 (by decide), h36 A lt] at e3
              subst e3
              refine zp_ite (fun n1 => ihi (B + 1) ν (by omega) (by omega) fr (u.same (skip fun k => n1 k.1))) fun y1 => zp_bind (zp_mono (c_howOf (by omega)) fun r5 e5 => ?_)
              rw [fr 36 (by decide), h36 B lB] at e5
              subst e5
              refine zp_ite (fun n2 => ihi (B + 1) ν (by omega) (by omega) fr (u.same (skip fun k => n2 k.2))) fun y2 => ?_
              have rA := Classical.not_not.mp y1
              have rB := Classical.not_not.mp y2
              obtain ⟨zA, zAl, esA⟩ := st.running lt rA
              obtain ⟨zB, zBl, esB⟩ := st.running lB rB
              have lA' := l24 A lt
              have lB' := l24 B lB
              refine zp_bind (zp_mono (stp A lt ν (fr 39 (by decide))) fun r7 e7 => zp_bind (zp_mono (stp B lB ν (fr 39 (by decide))) fun r8 e8 => ?_))
              rw [e7, e8, esA, esB, zo_slot2 (t := A) (z := zA) (by omega) (by omega), zo_slot2 (t := B) (z := zB) (by omega) (by omega)]
              exact zp_bind (zp_mono (c_noteRace m4 pj fd l24 fr ⟨hAB, lB⟩ ⟨zAl, zBl⟩ ⟨rA, rB⟩ ⟨esA, esB⟩ u) fun r9 h9 => ihi (B + 1) r9 (by omega) (by omega) h9.1 h9.2)
        rw [zo_1 (m := A) (by omega)]
        exact inn N (A + 1) ν (by omega) (by omega) fr u
  unfold zf_Findings_noteRaces
  refine out N 0 σ (by omega) (fun _ _ => rfl) fun p hp => ⟨fun k => absurd k RPq_init, fun _ => rfl⟩
