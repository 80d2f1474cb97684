-- both answer alike
set_option maxRecDepth 2000
def GETL (L : List Nat) (x r : Int32) : Prop := (∃ i y, L[i]? = some y ∧ x = Int32.ofNat i ∧ r = Int32.ofNat y) ∨ ((∀ i, i < L.length → ¬ x = Int32.ofNat i) ∧ r = -1)
theorem GETL.one {L : List Nat} {x r r' : Int32} (hl : L.length ≤ 90000) (h : GETL L x r) (h' : GETL L x r') : r = r' := by
  rcases h with ⟨i, y, e1, e2, e3⟩ | ⟨no, e⟩
  · have il := (List.getElem?_eq_some_iff.mp e1).1
    rcases h' with ⟨j, z, f1, f2, f3⟩ | ⟨no, _⟩
    · have jl := (List.getElem?_eq_some_iff.mp f1).1
      have ij : i = j := zo_inj (by omega) (by omega) (e2.symm.trans f2)
      rw [ij, f1] at e1
      injection e1 with e1
      rw [e3, f3, e1]
    · exact absurd e2 (no i il)
  · rcases h' with ⟨j, z, f1, f2, f3⟩ | ⟨_, e'⟩
    · exact absurd f2 (no j (List.getElem?_eq_some_iff.mp f1).1)
    · rw [e, e']
theorem a_53 {σ : zS} {L : List Nat} {y : Nat} (h : STL (σ 53 1) (σ 54) L) (hl : L.length < 3456) : zp (zf_Numbers_add σ (Int32.ofNat y)) (fun r => STL (r 53 1) (r 54) (L ++ [y]) ∧ ∀ q, q ≠ 53 → q ≠ 54 → r q = σ q) := by
  have h1 := h.1
  unfold zf_Numbers_add
  rw [h1]
  refine zp_ite (fun q => ?_) fun _ => zp_ite (fun q => ?_) fun _ => zp_chk fun _ => zp_some ⟨?_, fun q a b => by rw [zu_other a, zu_other b]⟩
  · have := (zo_lt (k := L.length) (j := 0) (by omega) (by omega)).mp q
    omega
  · have := (zo_le (k := 3456) (j := L.length) (by omega) (by omega)).mp q
    omega
  · rw [zo_n (m := L.length) (by omega), zo_1 (m := L.length) (by omega), zx_up_same, zu_eq, zu_other (by decide), zx_up_same]
    exact h.snoc
theorem a_55 {σ : zS} {L : List Nat} {y : Nat} (h : STL (σ 55 1) (σ 56) L) (hl : L.length < 3456) : zp (zf_Numbers_add_c1 σ (Int32.ofNat y)) (fun r => STL (r 55 1) (r 56) (L ++ [y]) ∧ ∀ q, q ≠ 55 → q ≠ 56 → r q = σ q) := by
  have h1 := h.1
  unfold zf_Numbers_add_c1
  rw [h1]
  refine zp_ite (fun q => ?_) fun _ => zp_ite (fun q => ?_) fun _ => zp_chk fun _ => zp_some ⟨?_, fun q a b => by rw [zu_other a, zu_other b]⟩
  · have := (zo_lt (k := L.length) (j := 0) (by omega) (by omega)).mp q
    omega
  · have := (zo_le (k := 3456) (j := L.length) (by omega) (by omega)).mp q
    omega
  · rw [zo_n (m := L.length) (by omega), zo_1 (m := L.length) (by omega), zx_up_same, zu_eq, zu_other (by decide), zx_up_same]
    exact h.snoc
theorem a_49 {σ : zS} {L : List Nat} {y : Nat} (h : STL (σ 49 1) (σ 50) L) (hl : L.length < 4000) : zp (zf_Numbers_add_c4 σ (Int32.ofNat y)) (fun r => STL (r 49 1) (r 50) (L ++ [y]) ∧ ∀ q, q ≠ 49 → q ≠ 50 → r q = σ q) := by
  have h1 := h.1
  unfold zf_Numbers_add_c4
  rw [h1]
  refine zp_ite (fun q => ?_) fun _ => zp_ite (fun q => ?_) fun _ => zp_chk fun _ => zp_some ⟨?_, fun q a b => by rw [zu_other a, zu_other b]⟩
  · have := (zo_lt (k := L.length) (j := 0) (by omega) (by omega)).mp q
    omega
  · have := (zo_le (k := 4000) (j := L.length) (by omega) (by omega)).mp q
    omega
  · rw [zo_n (m := L.length) (by omega), zo_1 (m := L.length) (by omega), zx_up_same, zu_eq, zu_other (by decide), zx_up_same]
    exact h.snoc
theorem a_47 {σ : zS} {L : List Nat} {y : Nat} (h : STL (σ 47 1) (σ 48) L) (hl : L.length < 4000) : zp (zf_Numbers_add_c5 σ (Int32.ofNat y)) (fun r => STL (r 47 1) (r 48) (L ++ [y]) ∧ ∀ q, q ≠ 47 → q ≠ 48 → r q = σ q) := by
  have h1 := h.1
  unfold zf_Numbers_add_c5
  rw [h1]
  refine zp_ite (fun q => ?_) fun _ => zp_ite (fun q => ?_) fun _ => zp_chk fun _ => zp_some ⟨?_, fun q a b => by rw [zu_other a, zu_other b]⟩
  · have := (zo_lt (k := L.length) (j := 0) (by omega) (by omega)).mp q
    omega
  · have := (zo_le (k := 4000) (j := L.length) (by omega) (by omega)).mp q
    omega
  · rw [zo_n (m := L.length) (by omega), zo_1 (m := L.length) (by omega), zx_up_same, zu_eq, zu_other (by decide), zx_up_same]
    exact h.snoc
theorem a_51 {σ : zS} {L : List Nat} {y : Nat} (h : STL (σ 51 1) (σ 52) L) (hl : L.length < 4000) : zp (zf_Numbers_add_c6 σ (Int32.ofNat y)) (fun r => STL (r 51 1) (r 52) (L ++ [y]) ∧ ∀ q, q ≠ 51 → q ≠ 52 → r q = σ q) := by
  have h1 := h.1
  unfold zf_Numbers_add_c6
  rw [h1]
  refine zp_ite (fun q => ?_) fun _ => zp_ite (fun q => ?_) fun _ => zp_chk fun _ => zp_some ⟨?_, fun q a b => by rw [zu_other a, zu_other b]⟩
  · have := (zo_lt (k := L.length) (j := 0) (by omega) (by omega)).mp q
    omega
  · have := (zo_le (k := 4000) (j := L.length) (by omega) (by omega)).mp q
    omega
  · rw [zo_n (m := L.length) (by omega), zo_1 (m := L.length) (by omega), zx_up_same, zu_eq, zu_other (by decide), zx_up_same]
    exact h.snoc
theorem a_59 {σ : zS} {L : List Nat} {y : Nat} (h : STL (σ 59 1) (σ 60) L) (hl : L.length < 4000) : zp (zf_Numbers_add_c2 σ (Int32.ofNat y)) (fun r => STL (r 59 1) (r 60) (L ++ [y]) ∧ ∀ q, q ≠ 59 → q ≠ 60 → r q = σ q) := by
  have h1 := h.1
  unfold zf_Numbers_add_c2
  rw [h1]
  refine zp_ite (fun q => ?_) fun _ => zp_ite (fun q => ?_) fun _ => zp_chk fun _ => zp_some ⟨?_, fun q a b => by rw [zu_other a, zu_other b]⟩
  · have := (zo_lt (k := L.length) (j := 0) (by omega) (by omega)).mp q
    omega
  · have := (zo_le (k := 4000) (j := L.length) (by omega) (by omega)).mp q
    omega
  · rw [zo_n (m := L.length) (by omega), zo_1 (m := L.length) (by omega), zx_up_same, zu_eq, zu_other (by decide), zx_up_same]
    exact h.snoc
theorem a_61 {σ : zS} {L : List Nat} {y : Nat} (h : STL (σ 61 1) (σ 62) L) (hl : L.length < 4000) : zp (zf_Numbers_add_c3 σ (Int32.ofNat y)) (fun r => STL (r 61 1) (r 62) (L ++ [y]) ∧ ∀ q, q ≠ 61 → q ≠ 62 → r q = σ q) := by
  have h1 := h.1
  unfold zf_Numbers_add_c3
  rw [h1]
  refine zp_ite (fun q => ?_) fun _ => zp_ite (fun q => ?_) fun _ => zp_chk fun _ => zp_some ⟨?_, fun q a b => by rw [zu_other a, zu_other b]⟩
  · have := (zo_lt (k := L.length) (j := 0) (by omega) (by omega)).mp q
    omega
  · have := (zo_le (k := 4000) (j := L.length) (by omega) (by omega)).mp q
    omega
  · rw [zo_n (m := L.length) (by omega), zo_1 (m := L.length) (by omega), zx_up_same, zu_eq, zu_other (by decide), zx_up_same]
    exact h.snoc
theorem g_51 {σ : zS} {L : List Nat} {x : Int32} (h : STL (σ 51 1) (σ 52) L) (hl : L.length ≤ 4000) : zp (zf_Numbers_get_c1 σ x) (fun r => GETL L x r) := by
  have h1 := h.1
  unfold zf_Numbers_get_c1 zb_Numbers_get_c1_21
  rw [h1]
  have neg : x < 0 → ∀ i, i < L.length → ¬ x = Int32.ofNat i := fun q i hi e => by
    rw [e] at q
    have := (zo_lt (k := i) (j := 0) (by omega) (by omega)).mp q
    omega
  have big : Int32.ofNat L.length ≤ x → ∀ i, i < L.length → ¬ x = Int32.ofNat i := fun q i hi e => by
    rw [e] at q
    have := (zo_le (k := L.length) (j := i) (by omega) (by omega)).mp q
    omega
  refine zp_ite (fun q => zp_some (Or.inr ⟨neg q, rfl⟩)) fun q0 => zp_ite (fun q => zp_some (Or.inr ⟨big q, rfl⟩)) fun q1 => ?_
  obtain ⟨i, hi, e⟩ := z_ex (m := L.length) (by omega) (Int32.not_lt.mp q0) (Int32.not_le.mp q1)
  subst e
  rw [zo_n (m := i) (by omega)]
  refine zp_ite (fun _ => zp_chk fun _ => zp_some (Or.inl ⟨i, L[i], List.getElem?_eq_getElem hi, rfl, h.2 i L[i] (List.getElem?_eq_getElem hi)⟩)) fun q => absurd ((zo_lt (k := i) (j := 4000) (by omega) (by omega)).mpr (by omega)) q
theorem g_61 {σ : zS} {L : List Nat} {x : Int32} (h : STL (σ 61 1) (σ 62) L) (hl : L.length ≤ 4000) : zp (zf_Numbers_get_c2 σ x) (fun r => GETL L x r) := by
  have h1 := h.1
  unfold zf_Numbers_get_c2 zb_Numbers_get_c2_21
  rw [h1]
  have neg : x < 0 → ∀ i, i < L.length → ¬ x = Int32.ofNat i := fun q i hi e => by
    rw [e] at q
    have := (zo_lt (k := i) (j := 0) (by omega) (by omega)).mp q
    omega
  have big : Int32.ofNat L.length ≤ x → ∀ i, i < L.length → ¬ x = Int32.ofNat i := fun q i hi e => by
    rw [e] at q
    have := (zo_le (k := L.length) (j := i) (by omega) (by omega)).mp q
    omega
  refine zp_ite (fun q => zp_some (Or.inr ⟨neg q, rfl⟩)) fun q0 => zp_ite (fun q => zp_some (Or.inr ⟨big q, rfl⟩)) fun q1 => ?_
  obtain ⟨i, hi, e⟩ := z_ex (m := L.length) (by omega) (Int32.not_lt.mp q0) (Int32.not_le.mp q1)
  subst e
  rw [zo_n (m := i) (by omega)]
  refine zp_ite (fun _ => zp_chk fun _ => zp_some (Or.inl ⟨i, L[i], List.getElem?_eq_getElem hi, rfl, h.2 i L[i] (List.getElem?_eq_getElem hi)⟩)) fun q => absurd ((zo_lt (k := i) (j := 4000) (by omega) (by omega)).mpr (by omega)) q
theorem g_47 {σ : zS} {L : List Nat} {x : Int32} (h : STL (σ 47 1) (σ 48) L) (hl : L.length ≤ 4000) : zp (zf_Numbers_get_c3 σ x) (fun r => GETL L x r) := by
  have h1 := h.1
  unfold zf_Numbers_get_c3 zb_Numbers_get_c3_21
  rw [h1]
  have neg : x < 0 → ∀ i, i < L.length → ¬ x = Int32.ofNat i := fun q i hi e => by
    rw [e] at q
    have := (zo_lt (k := i) (j := 0) (by omega) (by omega)).mp q
    omega
  have big : Int32.ofNat L.length ≤ x → ∀ i, i < L.length → ¬ x = Int32.ofNat i := fun q i hi e => by
    rw [e] at q
    have := (zo_le (k := L.length) (j := i) (by omega) (by omega)).mp q
    omega
  refine zp_ite (fun q => zp_some (Or.inr ⟨neg q, rfl⟩)) fun q0 => zp_ite (fun q => zp_some (Or.inr ⟨big q, rfl⟩)) fun q1 => ?_
  obtain ⟨i, hi, e⟩ := z_ex (m := L.length) (by omega) (Int32.not_lt.mp q0) (Int32.not_le.mp q1)
  subst e
  rw [zo_n (m := i) (by omega)]
  refine zp_ite (fun _ => zp_chk fun _ => zp_some (Or.inl ⟨i, L[i], List.getElem?_eq_getElem hi, rfl, h.2 i L[i] (List.getElem?_eq_getElem hi)⟩)) fun q => absurd ((zo_lt (k := i) (j := 4000) (by omega) (by omega)).mpr (by omega)) q
theorem g_49 {σ : zS} {L : List Nat} {x : Int32} (h : STL (σ 49 1) (σ 50) L) (hl : L.length ≤ 4000) : zp (zf_Numbers_get_c4 σ x) (fun r => GETL L x r) := by
  have h1 := h.1
  unfold zf_Numbers_get_c4 zb_Numbers_get_c4_21
  rw [h1]
  have neg : x < 0 → ∀ i, i < L.length → ¬ x = Int32.ofNat i := fun q i hi e => by
    rw [e] at q
    have := (zo_lt (k := i) (j := 0) (by omega) (by omega)).mp q
    omega
  have big : Int32.ofNat L.length ≤ x → ∀ i, i < L.length → ¬ x = Int32.ofNat i := fun q i hi e => by
    rw [e] at q
    have := (zo_le (k := L.length) (j := i) (by omega) (by omega)).mp q
    omega
  refine zp_ite (fun q => zp_some (Or.inr ⟨neg q, rfl⟩)) fun q0 => zp_ite (fun q => zp_some (Or.inr ⟨big q, rfl⟩)) fun q1 => ?_
  obtain ⟨i, hi, e⟩ := z_ex (m := L.length) (by omega) (Int32.not_lt.mp q0) (Int32.not_le.mp q1)
  subst e
  rw [zo_n (m := i) (by omega)]
  refine zp_ite (fun _ => zp_chk fun _ => zp_some (Or.inl ⟨i, L[i], List.getElem?_eq_getElem hi, rfl, h.2 i L[i] (List.getElem?_eq_getElem hi)⟩)) fun q => absurd ((zo_lt (k := i) (j := 4000) (by omega) (by omega)).mpr (by omega)) q
theorem g_55 {σ : zS} {L : List Nat} {x : Int32} (h : STL (σ 55 1) (σ 56) L) (hl : L.length ≤ 3456) : zp (zf_Numbers_get_c5 σ x) (fun r => GETL L x r) := by
  have h1 := h.1
  unfold zf_Numbers_get_c5 zb_Numbers_get_c5_21
  rw [h1]
  have neg : x < 0 → ∀ i, i < L.length → ¬ x = Int32.ofNat i := fun q i hi e => by
    rw [e] at q
    have := (zo_lt (k := i) (j := 0) (by omega) (by omega)).mp q
    omega
  have big : Int32.ofNat L.length ≤ x → ∀ i, i < L.length → ¬ x = Int32.ofNat i := fun q i hi e => by
    rw [e] at q
    have := (zo_le (k := L.length) (j := i) (by omega) (by omega)).mp q
    omega
  refine zp_ite (fun q => zp_some (Or.inr ⟨neg q, rfl⟩)) fun q0 => zp_ite (fun q => zp_some (Or.inr ⟨big q, rfl⟩)) fun q1 => ?_
  obtain ⟨i, hi, e⟩ := z_ex (m := L.length) (by omega) (Int32.not_lt.mp q0) (Int32.not_le.mp q1)
  subst e
  rw [zo_n (m := i) (by omega)]
  refine zp_ite (fun _ => zp_chk fun _ => zp_some (Or.inl ⟨i, L[i], List.getElem?_eq_getElem hi, rfl, h.2 i L[i] (List.getElem?_eq_getElem hi)⟩)) fun q => absurd ((zo_lt (k := i) (j := 3456) (by omega) (by omega)).mpr (by omega)) q
theorem g_53 {σ : zS} {L : List Nat} {x : Int32} (h : STL (σ 53 1) (σ 54) L) (hl : L.length ≤ 3456) : zp (zf_Numbers_get_c6 σ x) (fun r => GETL L x r) := by
  have h1 := h.1
  unfold zf_Numbers_get_c6 zb_Numbers_get_c6_21
  rw [h1]
  have neg : x < 0 → ∀ i, i < L.length → ¬ x = Int32.ofNat i := fun q i hi e => by
    rw [e] at q
    have := (zo_lt (k := i) (j := 0) (by omega) (by omega)).mp q
    omega
  have big : Int32.ofNat L.length ≤ x → ∀ i, i < L.length → ¬ x = Int32.ofNat i := fun q i hi e => by
    rw [e] at q
    have := (zo_le (k := L.length) (j := i) (by omega) (by omega)).mp q
    omega
  refine zp_ite (fun q => zp_some (Or.inr ⟨neg q, rfl⟩)) fun q0 => zp_ite (fun q => zp_some (Or.inr ⟨big q, rfl⟩)) fun q1 => ?_
  obtain ⟨i, hi, e⟩ := z_ex (m := L.length) (by omega) (Int32.not_lt.mp q0) (Int32.not_le.mp q1)
  subst e
  rw [zo_n (m := i) (by omega)]
  refine zp_ite (fun _ => zp_chk fun _ => zp_some (Or.inl ⟨i, L[i], List.getElem?_eq_getElem hi, rfl, h.2 i L[i] (List.getElem?_eq_getElem hi)⟩)) fun q => absurd ((zo_lt (k := i) (j := 3456) (by omega) (by omega)).mpr (by omega)) q
theorem z_orb {v : Int32} {t : Nat} (ht : t < 4) : ¬ (v ||| zJ_shl 1 (Int32.ofNat t)) = 0 := fun e => by
  have b : gb (v ||| zJ_shl 1 (Int32.ofNat t)) t = true := by
    rw [gb_or, gb_shl (by omega) (by omega), decide_eq_true (Nat.le_refl t), Nat.sub_self, show gb 1 0 = true from by decide +kernel]
    simp
  rw [e, gb_zero] at b
  exact absurd b (by decide)
theorem c_failed {N m : Nat} {σ : zS} (m4 : m ≤ 4) (e42 : σ 4 2 = Int32.ofNat m) : zp (zf_Machine_failed N σ) (fun r => (r = 0 ↔ ∀ t, t < m → ¬ σ 36 t = 5)) := by
  have go : ∀ (n t : Nat) (v : Int32), t ≤ m → (v = 0 ↔ ∀ u, u < t → ¬ σ 36 u = 5) → zp (zb_Machine_failed_4 N n σ v (Int32.ofNat t)) (fun r => (r = 0 ↔ ∀ t, t < m → ¬ σ 36 t = 5)) := by
    intro n
    induction n with
    | zero => intro _ _ _ _; exact zp_none
    | succ n ih =>
      intro t v ht h
      rw [zb_Machine_failed_4, e42]
      unfold zb_Machine_failed_30
      refine zp_ite (fun q => zp_some ?_) fun q => ?_
      · have : m ≤ t := (zo_le (k := m) (j := t) (by omega) (by omega)).mp q
        rw [show m = t by omega]
        exact h
      · have lt : t < m := by
          by_cases c : t < m
          · exact c
          · exact absurd ((zo_le (k := m) (j := t) (by omega) (by omega)).mpr (by omega)) q
        rw [zo_1 (m := t) (by omega)]
        refine zp_bind (zp_mono (c_howOf (by omega)) fun r2 e2 => ?_)
        subst e2
        refine zp_ite (fun ne => ih (t + 1) v (by omega) ?_) fun y => ih (t + 1) _ (by omega) ?_
        · rw [h]
          constructor
          · intro a u hu
            by_cases c : u = t
            · rw [c]; exact ne
            · exact a u (by omega)
          · intro a u hu
            exact a u (by omega)
        · exact ⟨fun e => absurd e (z_orb (by omega)), fun a => absurd (Classical.not_not.mp y) (a t (by omega))⟩
  unfold zf_Machine_failed
  exact go N 0 0 (by omega) ⟨fun _ u hu => absurd hu (Nat.not_lt_zero _), fun _ => rfl⟩
def pEnd (m : Nat) (L : Nat → Int32) (X : Nat → Nat → Int32) (s : Nat) : Prop := L s = 1 ∧ ∀ t, t < m → GON (X s (15 + 6 * t))
def pStk (m : Nat) (L : Nat → Int32) (X : Nat → Nat → Int32) (s : Nat) : Prop := L s = 1 ∧ ¬ ∀ t, t < m → GON (X s (15 + 6 * t))
def pFai (m : Nat) (X : Nat → Nat → Int32) (s : Nat) : Prop := ∃ t, t < m ∧ X s (15 + 6 * t) = 5
def KEP (q : Nat) : Prop := q < 36 ∨ (40 ≤ q ∧ q ≤ 46) ∨ 58 ≤ q
def GTH (m : Nat) (ρ : zS) (L : Nat → Int32) (X : Nat → Nat → Int32) (S : Nat) (ν : zS) : Prop := STL (ν 47 1) (ν 48) (lst (pEnd m L X) 0 S) ∧ STL (ν 49 1) (ν 50) (lst (pStk m L X) 0 S) ∧ STL (ν 51 1) (ν 52) (lst (pFai m X) 0 S) ∧ LEA (ν 57) (-1) (fun s => Int32.ofNat s) (fun s => RPA m ρ (X s)) S
theorem lst_y {p : Nat → Prop} {S : Nat} (h : p S) : lst p 0 (S + 1) = lst p 0 S ++ [S] := by
  rw [lst_snoc, Nat.zero_add, hil_y h]
theorem lst_no {p : Nat → Prop} {S : Nat} (h : ¬ p S) : lst p 0 (S + 1) = lst p 0 S := by
  rw [lst_snoc, Nat.zero_add, hil_n h, List.append_nil]
theorem RPA.of {m : Nat} {σ r : zS} {x : Nat → Int32} {p : Nat} (e : ∀ q, q = 4 ∨ q = 7 ∨ q = 8 → r q = σ q) : RPA m r x p ↔ RPA m σ x p := by
  constructor
  · rintro ⟨a, b, za, zb, h1, h2, h3, h4, h5, h6⟩
    exact ⟨a, b, za, zb, h1, h2, h3, h4, h5.of fun q hq => (e q hq).symm, h6⟩
  · rintro ⟨a, b, za, zb, h1, h2, h3, h4, h5, h6⟩
    exact ⟨a, b, za, zb, h1, h2, h3, h4, h5.of fun q hq => e q hq, h6⟩
theorem LDD.keep {m : Nat} {ρ σ r : zS} {w x : Nat → Int32} (h : LDD m ρ w x σ) (e : ∀ q, (4 ≤ q ∧ q ≤ 16) ∨ (36 ≤ q ∧ q ≤ 39) → r q = σ q) : LDD m ρ w x r := by
  obtain ⟨l1, l2, l3, l4⟩ := h
  exact ⟨fun q a b => (e q (Or.inl ⟨a, b⟩)).trans (l1 q a b), by rw [e 39 (by decide)]; exact l2, by rw [e 36 (by decide), e 37 (by decide)]; exact l3, by rw [e 38 (by decide)]; exact l4⟩
theorem c_gatherL {N m n : Nat} {len : Nat → Nat} {nc : Nat → Nat → Nat} {ρ μ σ : zS} {X : Nat → Nat → Int32} (pc : PC m len nc ρ μ) (rows : ∀ q, 4 ≤ q → q ≤ 16 → σ q = ρ q) (n4 : n ≤ 4000) (h6 : σ 41 6 = Int32.ofNat n) (pj : PJ σ m len) (fd : FLD σ) (l01 : ∀ s, s < n → σ 44 s = 0 ∨ σ 44 s = 1) (hst : ∀ s, s < n → ST m len nc ρ (row5 σ s) (X s)) {Q : zS → Prop} (fin : ∀ ν, (∀ q, KEP q → ν q = σ q) → GTH m ρ (σ 44) X n ν → zp ((zf_Findings_listRaces N ν).bind fun r6 => (zf_Outcomes_gather N r6).bind fun r7 => some r7) Q) : ∀ (k S : Nat) (ν : zS), S ≤ n → (∀ q, KEP q → ν q = σ q) → GTH m ρ (σ 44) X S ν → zp (zb_Findings_gather_31 N k ν (Int32.ofNat S)) Q := by
  have m4 := pc.1.1
  intro k
  induction k with
  | zero => intro _ _ _ _ _; exact zp_none
  | succ k ih =>
    intro S ν hS fr g
    have k41 : ν 41 = σ 41 := fr 41 (by unfold KEP; omega)
    have k42 : ν 42 = σ 42 := fr 42 (by unfold KEP; omega)
    have k44 : ν 44 = σ 44 := fr 44 (by unfold KEP; omega)
    have r5 : ∀ s, row5 ν s = row5 σ s := fun s => by unfold row5; rw [k42]
    rw [zb_Findings_gather_31, k41, h6]
    refine zp_ite (fun q => ?_) fun q => ?_
    · have : n ≤ S := (zo_le (k := n) (j := S) (by omega) (by omega)).mp q
      rw [show S = n by omega] at g
      exact fin ν fr g
    have lt : S < n := by
      by_cases c : S < n
      · exact c
      · exact absurd ((zo_le (k := n) (j := S) (by omega) (by omega)).mpr (by omega)) q
    obtain ⟨gE, gS, gF, gR⟩ := g
    have st : ST m len nc ρ (row5 ν S) (X S) := by rw [r5]; exact hst S lt
    refine zp_bind (zp_mono (c_load pc (by rw [k41]; exact h6) n4 lt (fun q a b => (fr q (by unfold KEP; omega)).trans (rows q a b)) st) fun r8 ⟨ld, f8⟩ => ?_)
    have e42 : ∀ r : zS, LDD m ρ (row5 ν S) (X S) r → r 4 2 = Int32.ofNat m := fun r l => by rw [l.1 4 (by decide) (by decide)]; exact pc.1.2.1
    have k36 : ∀ r : zS, LDD m ρ (row5 ν S) (X S) r → ∀ t, t < m → r 36 t = X S (15 + 6 * t) := fun r l t ht => (l.2.2.1 t ht).1
    have t97 : ∀ r : zS, LDD m ρ (row5 ν S) (X S) r → (∀ q, KEP q → r q = σ q) → r 57 = ν 57 → STL (r 47 1) (r 48) (lst (pEnd m (σ 44) X) 0 (S + 1)) → STL (r 49 1) (r 50) (lst (pStk m (σ 44) X) 0 (S + 1)) → STL (r 51 1) (r 52) (lst (pFai m X) 0 (S + 1)) → zp (zb_Findings_gather_97 (zb_Findings_gather_31 N k) N r (Int32.ofNat S)) Q := fun r l f e57 a b c => by
      unfold zb_Findings_gather_97
      have pj' : PJ r m len := pj.of (fun q hq => f q (by unfold KEP; omega)) (by rw [f 82 (by unfold KEP; omega)])
      have fd' : FLD r := ⟨fd.1.of (by rw [f 4 (by unfold KEP; omega)]) (f 5 (by unfold KEP; omega)) (f 7 (by unfold KEP; omega)) (f 8 (by unfold KEP; omega)), fd.2.1.of (by rw [f 4 (by unfold KEP; omega)]) (by rw [f 4 (by unfold KEP; omega)]) (f 88 (by unfold KEP; omega)), by rw [f 4 (by unfold KEP; omega)]; exact fd.2.2⟩
      refine zp_bind (zp_mono (c_noteRaces pc st l pj' fd') fun r13 h13 => ?_)
      obtain ⟨f13, u⟩ := h13
      rw [zo_1 (m := S) (by omega)]
      refine ih (S + 1) r13 (by omega) (fun q hq => (f13 q (by unfold KEP at hq; omega)).trans (f q hq)) ⟨?_, ?_, ?_, ?_⟩
      · rw [f13 47 (by decide), f13 48 (by decide)]; exact a
      · rw [f13 49 (by decide), f13 50 (by decide)]; exact b
      · rw [f13 51 (by decide), f13 52 (by decide)]; exact c
      · rw [e57] at u
        refine gR.step (fun s hs => zo_ne (by omega)) (u.same fun p => ?_)
        exact (RPA.of fun q hq => (rows q (by omega) (by omega)).symm.trans (f q (by unfold KEP; omega)).symm)
    have t62 : ∀ r : zS, LDD m ρ (row5 ν S) (X S) r → (∀ q, KEP q → r q = σ q) → r 57 = ν 57 → STL (r 47 1) (r 48) (lst (pEnd m (σ 44) X) 0 S) → STL (r 49 1) (r 50) (lst (pStk m (σ 44) X) 0 S) → STL (r 51 1) (r 52) (lst (pFai m X) 0 (S + 1)) → zp (zb_Findings_gather_62 (zb_Findings_gather_31 N k) N r (Int32.ofNat S)) Q := fun r l f e57 a b c => by
      unfold zb_Findings_gather_62
      have q44 : r 44 = σ 44 := f 44 (by unfold KEP; omega)
      refine zp_bind (zp_mono (c_isLast (by rw [f 41 (by unfold KEP; omega)]; exact h6) n4 lt (by rw [q44]; exact l01 S lt)) fun r11 e11 => ?_)
      rw [q44] at e11
      subst e11
      refine zp_ite (fun z => ?_) fun nz => ?_
      · have no : ¬ σ 44 S = 1 := by rw [z]; decide
        exact t97 r l f e57 (by rw [lst_no fun h => no h.1]; exact a) (by rw [lst_no fun h => no h.1]; exact b) c
      · have yes : σ 44 S = 1 := (l01 S lt).resolve_left nz
        refine zp_bind (zp_mono (c_isOver m4 (e42 r l)) fun r14 h14 => ?_)
        have ow : (∀ t, t < m → GON (r 36 t)) ↔ ∀ t, t < m → GON (X S (15 + 6 * t)) := by
          constructor
          · intro h t ht; rw [← k36 r l t ht]; exact h t ht
          · intro h t ht; rw [k36 r l t ht]; exact h t ht
        unfold zb_Findings_gather_91 zb_Findings_gather_91_1
        rcases h14 with ⟨e14, no⟩ | ⟨e14, ov⟩
        · rw [ow] at no
          have len' := lst_len (p := pStk m (σ 44) X) S 0
          refine zp_ite (fun _ => zp_bind (zp_mono (a_49 b (by omega)) fun r16 h16 => ?_)) fun q => absurd e14 q
          refine t97 r16 (l.keep fun q hq => h16.2 q (by omega) (by omega)) (fun q hq => (h16.2 q (by unfold KEP at hq; omega) (by unfold KEP at hq; omega)).trans (f q hq)) ((h16.2 57 (by decide) (by decide)).trans e57) ?_ ?_ ?_
          · rw [h16.2 47 (by decide) (by decide), h16.2 48 (by decide) (by decide), lst_no fun h => no h.2]; exact a
          · rw [lst_y (p := pStk m (σ 44) X) ⟨yes, no⟩]; exact h16.1
          · rw [h16.2 51 (by decide) (by decide), h16.2 52 (by decide) (by decide)]; exact c
        · rw [ow] at ov
          have len' := lst_len (p := pEnd m (σ 44) X) S 0
          refine zp_ite (fun q => absurd (e14.symm.trans q) (by decide)) fun _ => zp_bind (zp_mono (a_47 a (by omega)) fun r17 h17 => ?_)
          refine t97 r17 (l.keep fun q hq => h17.2 q (by omega) (by omega)) (fun q hq => (h17.2 q (by unfold KEP at hq; omega) (by unfold KEP at hq; omega)).trans (f q hq)) ((h17.2 57 (by decide) (by decide)).trans e57) ?_ ?_ ?_
          · rw [lst_y (p := pEnd m (σ 44) X) ⟨yes, ov⟩]; exact h17.1
          · rw [h17.2 49 (by decide) (by decide), h17.2 50 (by decide) (by decide), lst_no fun h => h.2 ov]; exact b
          · rw [h17.2 51 (by decide) (by decide), h17.2 52 (by decide) (by decide)]; exact c
    have f8k : ∀ q, KEP q → r8 q = σ q := fun q hq => (f8 q (by unfold KEP at hq; omega) (by unfold KEP at hq; omega) (by unfold KEP at hq; omega) (by unfold KEP at hq; omega)).trans (fr q hq)
    have f8n : ∀ q, 47 ≤ q → q ≤ 57 → r8 q = ν q := fun q a b => f8 q (by omega) (by omega) (by omega) (by omega)
    refine zp_bind (zp_mono (c_failed m4 (e42 r8 ld)) fun r9 h9 => ?_)
    have ff : (∀ t, t < m → ¬ r8 36 t = 5) ↔ ¬ pFai m X S := by
      constructor
      · rintro h ⟨t, ht, e⟩
        exact h t ht (by rw [k36 r8 ld t ht]; exact e)
      · intro h t ht e
        exact h ⟨t, ht, by rw [← k36 r8 ld t ht]; exact e⟩
    rw [ff] at h9
    refine zp_ite (fun z => ?_) fun nz => ?_
    · exact t62 r8 ld f8k (f8n 57 (by decide) (by decide)) (by rw [f8n 47 (by decide) (by decide), f8n 48 (by decide) (by decide)]; exact gE) (by rw [f8n 49 (by decide) (by decide), f8n 50 (by decide) (by decide)]; exact gS) (by rw [f8n 51 (by decide) (by decide), f8n 52 (by decide) (by decide), lst_no (h9.mp z)]; exact gF)
    · have yes : pFai m X S := Classical.not_not.mp fun h => nz (h9.mpr h)
      have len' := lst_len (p := pFai m X) S 0
      refine zp_bind (zp_mono (a_51 (σ := r8) (L := lst (pFai m X) 0 S) (y := S) (by rw [f8n 51 (by decide) (by decide), f8n 52 (by decide) (by decide)]; exact gF) (by omega)) fun r18 h18 => ?_)
      have g18 : ∀ q, q ≠ 51 → q ≠ 52 → r18 q = r8 q := h18.2
      refine t62 r18 (ld.keep fun q hq => g18 q (by omega) (by omega)) (fun q hq => (g18 q (by unfold KEP at hq; omega) (by unfold KEP at hq; omega)).trans (f8k q hq)) ((g18 57 (by decide) (by decide)).trans (f8n 57 (by decide) (by decide))) ?_ ?_ ?_
      · rw [g18 47 (by decide) (by decide), g18 48 (by decide) (by decide), f8n 47 (by decide) (by decide), f8n 48 (by decide) (by decide)]; exact gE
      · rw [g18 49 (by decide) (by decide), g18 50 (by decide) (by decide), f8n 49 (by decide) (by decide), f8n 50 (by decide) (by decide)]; exact gS
      · rw [lst_y yes]; exact h18.1
