-- both answer alike
set_option maxRecDepth 2000
theorem lst_app {p : Nat → Prop} : ∀ (n k a : Nat), lst p a (n + k) = lst p a n ++ lst p (a + n) k := by
  intro n
  induction n with
  | zero => intro k a; rw [Nat.zero_add, lst, List.nil_append, Nat.add_zero]
  | succ n ih =>
    intro k a
    rw [show n + 1 + k = n + k + 1 by omega, lst, lst, ih k (a + 1), List.append_assoc, show a + 1 + n = a + (n + 1) by omega]
theorem lst_emp {p : Nat → Prop} : ∀ (n a : Nat), (∀ s, a ≤ s → s < a + n → ¬ p s) → lst p a n = [] := by
  intro n
  induction n with
  | zero => intro a _; rw [lst]
  | succ n ih =>
    intro a h
    rw [lst, hil_n (h a (by omega) (by omega)), ih (a + 1) fun s x y => h s (by omega) (by omega)]
    rfl
def bnr : Nat → Nat → Nat
  | _, 0 => 0
  | v, n + 1 => (96 - 24 * (v / 24 + 1)) + bnr (v + 1) n
theorem bnr_all : bnr 0 96 = 3456 := by decide +kernel
theorem rac_len {p : Nat → Prop} (h : ∀ s, p s → 24 * (s / 96 / 24 + 1) ≤ s % 96) : ∀ (n v : Nat), (lst p (96 * v) (96 * n)).length ≤ bnr v n := by
  intro n
  induction n with
  | zero => intro v; rw [lst, bnr]; exact Nat.le_refl _
  | succ n ih =>
    intro v
    have i := ih (v + 1)
    rw [show 96 * (n + 1) = 96 + 96 * n by omega, lst_app, bnr, List.length_append, show 96 * v + 96 = 96 * (v + 1) by omega]
    have row : (lst p (96 * v) 96).length ≤ 96 - 24 * (v / 24 + 1) := by
      by_cases c : 24 * (v / 24 + 1) ≤ 96
      · rw [show lst p (96 * v) 96 = lst p (96 * v) (24 * (v / 24 + 1) + (96 - 24 * (v / 24 + 1))) by rw [show 24 * (v / 24 + 1) + (96 - 24 * (v / 24 + 1)) = 96 by omega], lst_app, lst_emp (24 * (v / 24 + 1)) (96 * v) fun s x y k => ?_, List.nil_append]
        · exact lst_len _ _
        · have := h s k
          rw [show s / 96 = v by omega] at this
          omega
      · rw [lst_emp 96 (96 * v) fun s x y k => ?_]
        · exact Nat.zero_le _
        · have := h s k
          rw [show s / 96 = v by omega] at this
          omega
    omega
def pRac (g : Nat → Int32) (p : Nat) : Prop := ¬ g p = -1
theorem c_listRaces {N n : Nat} {m : Nat} {ρ σ : zS} {X : Nat → Nat → Int32} (m4 : m ≤ 4) (n4 : n ≤ 4000) (le : LEA (σ 57) (-1) (fun s => Int32.ofNat s) (fun s => RPA m ρ (X s)) n) : zp (zf_Findings_listRaces N σ) (fun r => STL (r 53 1) (r 54) (lst (fun p => p < 9216 ∧ pRac (σ 57) p) 0 9216) ∧ STL (r 55 1) (r 56) ((lst (fun p => p < 9216 ∧ pRac (σ 57) p) 0 9216).map fun p => (σ 57 p).toNatClampNeg) ∧ ∀ q, q ≠ 53 → q ≠ 54 → q ≠ 55 → q ≠ 56 → r q = σ q) := by
  have few : ∀ k, k ≤ 9216 → (lst (fun p => p < 9216 ∧ pRac (σ 57) p) 0 k).length ≤ 3456 := fun k hk => by
    have a : (lst (fun p => p < 9216 ∧ pRac (σ 57) p) (96 * 0) (96 * 96)).length ≤ bnr 0 96 := rac_len (fun s k => by
      rcases le s k.1 with ⟨e, _⟩ | ⟨_, _, _, ⟨a, b, za, zb, h1, h2, _, _, _, e⟩, _⟩
      · exact absurd e k.2
      · omega) 96 0
    rw [Nat.mul_zero, bnr_all, show 96 * 96 = k + (9216 - k) by omega, lst_app, List.length_append] at a
    omega
  have val : ∀ p, p < 9216 → pRac (σ 57) p → σ 57 p = Int32.ofNat (σ 57 p).toNatClampNeg := fun p hp k => by
    rcases le p hp with ⟨e, _⟩ | ⟨s, hs, e, _⟩
    · exact absurd e k
    · rw [e]
      show Int32.ofNat s = Int32.ofNat (Int32.ofNat s).toNatClampNeg
      rw [zo_n (by omega)]
  have go : ∀ (i p : Nat) (ν : zS), p ≤ 9216 → (∀ q, q ≠ 53 → q ≠ 54 → q ≠ 55 → q ≠ 56 → ν q = σ q) → STL (ν 53 1) (ν 54) (lst (fun p => p < 9216 ∧ pRac (σ 57) p) 0 p) → STL (ν 55 1) (ν 56) ((lst (fun p => p < 9216 ∧ pRac (σ 57) p) 0 p).map fun p => (σ 57 p).toNatClampNeg) → zp (zb_Findings_listRaces_16 N i ν (Int32.ofNat p)) (fun r => STL (r 53 1) (r 54) (lst (fun p => p < 9216 ∧ pRac (σ 57) p) 0 9216) ∧ STL (r 55 1) (r 56) ((lst (fun p => p < 9216 ∧ pRac (σ 57) p) 0 9216).map fun p => (σ 57 p).toNatClampNeg) ∧ ∀ q, q ≠ 53 → q ≠ 54 → q ≠ 55 → q ≠ 56 → r q = σ q) := by
    intro i
    induction i with
    | zero => intro _ _ _ _ _ _; exact zp_none
    | succ i ih =>
      intro p ν hp fr a b
      rw [zb_Findings_listRaces_16]
      unfold zb_Findings_listRaces_56
      refine zp_ite (fun q => zp_some ?_) fun q => ?_
      · have : 9216 ≤ p := (zo_le (k := 9216) (j := p) (by omega) (by omega)).mp q
        rw [show p = 9216 by omega] at a b
        exact ⟨a, b, fr⟩
      · have lt : p < 9216 := by
          by_cases c : p < 9216
          · exact c
          · exact absurd ((zo_le (k := 9216) (j := p) (by omega) (by omega)).mpr (by omega)) q
        rw [zo_n (m := p) (by omega), zo_1 (m := p) (by omega)]
        have e57 : ν 57 = σ 57 := fr 57 (by decide) (by decide) (by decide) (by decide)
        refine zp_chk fun _ => zp_ite (fun e => ?_) fun ne => ?_
        · rw [e57] at e
          refine ih (p + 1) ν (by omega) fr ?_ ?_
          · rw [lst_no fun k => k.2 e]; exact a
          · rw [lst_no fun k => k.2 e]; exact b
        · rw [e57] at ne
          have k : p < 9216 ∧ pRac (σ 57) p := ⟨lt, ne⟩
          have f := few (p + 1) (by omega)
          rw [lst_y (p := fun p => p < 9216 ∧ pRac (σ 57) p) k, List.length_append] at f
          have f : (lst (fun p => p < 9216 ∧ pRac (σ 57) p) 0 p).length + 1 ≤ 3456 := f
          refine zp_bind (zp_mono (a_53 a (by omega)) fun r6 h6 => zp_chk fun _ => ?_)
          have e6 : r6 57 = σ 57 := (h6.2 57 (by decide) (by decide)).trans e57
          rw [e6, val p lt ne]
          refine zp_bind (zp_mono (a_55 (σ := r6) (L := (lst (fun p => p < 9216 ∧ pRac (σ 57) p) 0 p).map fun p => (σ 57 p).toNatClampNeg) (y := (σ 57 p).toNatClampNeg) (by rw [h6.2 55 (by decide) (by decide), h6.2 56 (by decide) (by decide)]; exact b) (by rw [List.length_map]; omega)) fun r8 h8 => ih (p + 1) r8 (by omega) (fun q x y z w => (h8.2 q z w).trans ((h6.2 q x y).trans (fr q x y z w))) ?_ ?_)
          · rw [lst_y (p := fun p => p < 9216 ∧ pRac (σ 57) p) k, h8.2 53 (by decide) (by decide), h8.2 54 (by decide) (by decide)]
            exact h6.1
          · rw [lst_y (p := fun p => p < 9216 ∧ pRac (σ 57) p) k, List.map_append]
            exact h8.1
  unfold zf_Findings_listRaces zf_Numbers_clear_c3 zf_Numbers_clear_c4
  refine zp_bind (zp_some (zp_bind (zp_some (go N 0 _ (by omega) (fun q a b c d => by rw [zu_other c, zu_other a]) ?_ ?_))))
  · rw [zu_other (by decide), zx_up_same, zu_eq]
    exact STL.nil
  · rw [zx_up_same, zu_eq]
    exact STL.nil
theorem c_fill57 {N : Nat} {σ : zS} : zp (zf_Arrays_fill_c5 N σ (-1)) (fun r => (∀ q, q ≠ 57 → r q = σ q) ∧ ∀ p, p < 9216 → r 57 p = -1) := by
  have go : ∀ (n i : Nat) (ν : zS), i ≤ 9216 → (∀ q, q ≠ 57 → ν q = σ q) → (∀ l, l < i → ν 57 l = -1) → zp (zb_Arrays_fill_c5_5 N n ν (-1) (Int32.ofNat i) 9216) (fun r => (∀ q, q ≠ 57 → r q = σ q) ∧ ∀ p, p < 9216 → r 57 p = -1) := by
    intro n
    induction n with
    | zero => intro _ _ _ _ _; exact zp_none
    | succ n ih =>
      intro i ν hi fr f
      rw [zb_Arrays_fill_c5_5]
      refine zp_ite (fun q => zp_some ⟨fr, fun l hl => f l ?_⟩) fun q => zp_chk fun _ => ?_
      · have := (zo_le (k := 9216) (j := i) (by omega) (by omega)).mp q
        omega
      · rw [zo_n (by omega), zo_1 (by omega)]
        have lt : i < 9216 := by
          by_cases c : i < 9216
          · exact c
          · exact absurd ((zo_le (k := 9216) (j := i) (by omega) (by omega)).mpr (by omega)) q
        refine ih (i + 1) _ (by omega) (fun q hq => by rw [zu_other hq]; exact fr q hq) fun l hl => ?_
        rw [zx_up_same]
        by_cases c : l = i
        · rw [c, zu_eq]
        · rw [zu_ne c]; exact f l (by omega)
  unfold zf_Arrays_fill_c5
  exact go N 0 σ (by omega) (fun _ _ => rfl) fun l hl => absurd hl (Nat.not_lt_zero _)
def FNG (m n : Nat) (ρ : zS) (L : Nat → Int32) (X : Nat → Nat → Int32) (r : zS) : Prop := GTH m ρ L X n r ∧ STL (r 53 1) (r 54) (lst (fun p => p < 9216 ∧ pRac (r 57) p) 0 9216) ∧ STL (r 55 1) (r 56) ((lst (fun p => p < 9216 ∧ pRac (r 57) p) 0 9216).map fun p => (r 57 p).toNatClampNeg)
theorem FNG.of {m n : Nat} {ρ σ r : zS} {L L' : Nat → Int32} {X : Nat → Nat → Int32} (h : FNG m n ρ L X σ) (e : ∀ q, 47 ≤ q → q ≤ 57 → r q = σ q) (eL : L' = L) : FNG m n ρ L' X r := by
  subst eL
  unfold FNG GTH at *
  rw [e 47 (by decide) (by decide), e 48 (by decide) (by decide), e 49 (by decide) (by decide), e 50 (by decide) (by decide), e 51 (by decide) (by decide), e 52 (by decide) (by decide), e 53 (by decide) (by decide), e 54 (by decide) (by decide), e 55 (by decide) (by decide), e 56 (by decide) (by decide), e 57 (by decide) (by decide)]
  exact h
theorem c_gather {N m n : Nat} {len : Nat → Nat} {nc : Nat → Nat → Nat} {ρ μ σ : zS} (pc : PC m len nc ρ μ) (rows : ∀ q, 4 ≤ q → q ≤ 16 → σ q = ρ q) (n4 : n ≤ 4000) (h6 : σ 41 6 = Int32.ofNat n) (pj : PJ σ m len) (fd : FLD σ) (l01 : ∀ s, s < n → σ 44 s = 0 ∨ σ 44 s = 1) : zp (zf_Findings_gather N σ) (fun r => ∀ X : Nat → Nat → Int32, (∀ s, s < n → ST m len nc ρ (row5 σ s) (X s)) → FNG m n ρ (σ 44) X r) := by
  have main : ∀ X : Nat → Nat → Int32, (∀ s, s < n → ST m len nc ρ (row5 σ s) (X s)) → zp (zf_Findings_gather N σ) (fun r => FNG m n ρ (σ 44) X r) := fun X hst => by
    unfold zf_Findings_gather zf_Numbers_clear zf_Numbers_clear_c1 zf_Numbers_clear_c2
    refine zp_bind (zp_some (zp_bind (zp_some (zp_bind (zp_some (zp_bind (zp_mono c_fill57 fun r4 h4 => ?_)))))))
    obtain ⟨f4, z57⟩ := h4
    have k : ∀ q, q ≠ 47 → q ≠ 49 → q ≠ 51 → q ≠ 57 → r4 q = σ q := fun q a b c d => by rw [f4 q d, zu_other c, zu_other b, zu_other a]
    have fr : ∀ q, KEP q → r4 q = σ q := fun q hq => k q (by unfold KEP at hq; omega) (by unfold KEP at hq; omega) (by unfold KEP at hq; omega) (by unfold KEP at hq; omega)
    have z : ∀ c, (c = 47 ∨ c = 49 ∨ c = 51) → r4 c 1 = 0 := fun c hc => by
      rw [f4 c (by omega)]
      rcases hc with e | e | e
      · rw [e, zu_other (by decide), zu_other (by decide), zx_up_same, zu_eq]
      · rw [e, zu_other (by decide), zx_up_same, zu_eq]
      · rw [e, zx_up_same, zu_eq]
    refine c_gatherL pc rows n4 h6 pj fd l01 hst (fun ν fv g => ?_) N 0 r4 (by omega) fr ⟨?_, ?_, ?_, LEA.zero z57⟩
    · refine zp_bind (zp_mono (c_listRaces pc.1.1 n4 g.2.2.2) fun r6 h6' => zp_bind (zp_mono (xo_f_Outcomes_gather (σ0 := r6) (fun _ _ => rfl)) fun r7 h7 => zp_some ?_))
      obtain ⟨a, b, f6⟩ := h6'
      have o : ∀ q, 47 ≤ q → q ≤ 57 → r7 q = r6 q := fun q x y => h7 q (by omega)
      have e57 : r7 57 = ν 57 := (o 57 (by decide) (by decide)).trans (f6 57 (by decide) (by decide) (by decide) (by decide))
      have lo : ∀ q, 47 ≤ q → q ≤ 52 → r7 q = ν q := fun q x y => (o q x (by omega)).trans (f6 q (by omega) (by omega) (by omega) (by omega))
      refine ⟨?_, ?_, ?_⟩
      · unfold GTH at *
        rw [lo 47 (by decide) (by decide), lo 48 (by decide) (by decide), lo 49 (by decide) (by decide), lo 50 (by decide) (by decide), lo 51 (by decide) (by decide), lo 52 (by decide) (by decide), e57]
        exact g
      · rw [o 53 (by decide) (by decide), o 54 (by decide) (by decide), e57]
        exact a
      · rw [o 55 (by decide) (by decide), o 56 (by decide) (by decide), e57]
        exact b
    · rw [z 47 (by decide)]; exact STL.nil
    · rw [z 49 (by decide)]; exact STL.nil
    · rw [z 51 (by decide)]; exact STL.nil
  exact fun r e X hst => main X hst r e
