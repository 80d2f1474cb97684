-- both answer alike
set_option maxRecDepth 2000
theorem m_isOutcomeB {N m c0 a b : Nat} {μ : zS} (m4 : m ≤ 4) (c6 : c0 ≤ 6) (e15 : μ 82 15 = Int32.ofNat c0) (e17 : μ 82 17 = Int32.ofNat m) (ha : a < 8000) (hb : b < 8000) : zp (zf_M_isOutcome N μ (Int32.ofNat a) (Int32.ofNat b)) (fun r => ANQ (OEQ m c0 (row40 μ a) (row40 μ b)) r) := by
  have ix : ∀ s t : Nat, s < 8000 → t < 4 → ((40 * Int32.ofNat s) + Int32.ofNat (14 + 6 * t)) + 1 = Int32.ofNat (40 * s + (15 + 6 * t)) := fun s t hs ht => by
    rw [zo_mul40 (s := s) (i := 14 + 6 * t) (by omega) (by omega)]
    show Int32.ofNat (40 * s + (14 + 6 * t)) + Int32.ofNat 1 = _
    rw [← Int32.ofNat_add, show 40 * s + (14 + 6 * t) + 1 = 40 * s + (15 + 6 * t) by omega]
  have thr : ∀ (n t : Nat) (v3 v4 v5 : Int32), t ≤ m → ANQ ((∀ f, f < c0 → row40 μ a f = row40 μ b f) ∧ ∀ u, u < t → (row40 μ a (15 + 6 * u) = 5 ↔ row40 μ b (15 + 6 * u) = 5)) v3 → ANQ (¬ ∀ u, u < t → GON (row40 μ a (15 + 6 * u))) v4 → ANQ (¬ ∀ u, u < t → GON (row40 μ b (15 + 6 * u))) v5 → zp (zb_M_isOutcome_66 N n μ (Int32.ofNat a) (Int32.ofNat b) v3 v4 v5 (Int32.ofNat t)) (fun r => ANQ (OEQ m c0 (row40 μ a) (row40 μ b)) r) := by
    intro n
    induction n with
    | zero => intro _ _ _ _ _ _ _ _; exact zp_none
    | succ n ih =>
      intro t v3 v4 v5 ht h3 h4 h5
      rw [zb_M_isOutcome_66, e17]
      unfold zf_M_at
      refine zp_ite (fun q => ?_) fun q => ?_
      · have tm : t = m := by
          have := (zo_le (k := m) (j := t) (by omega) (by omega)).mp q
          omega
        subst tm
        rcases h3 with ⟨e, no⟩ | ⟨e, yes⟩
        · exact zp_ite (fun _ => zp_some (Or.inl ⟨rfl, fun o => no ⟨o.1, o.2.1⟩⟩)) fun z => absurd e z
        · refine zp_ite (fun z => absurd (e.symm.trans z) (by decide)) fun _ => zp_ite (fun ne => zp_some (Or.inl ⟨rfl, fun o => ne ?_⟩)) fun eq => zp_some (Or.inr ⟨rfl, yes.1, yes.2, ?_⟩)
          · rcases h4 with ⟨a4, b4⟩ | ⟨a4, b4⟩
            · rcases h5 with ⟨a5, _⟩ | ⟨a5, b5⟩
              · rw [a4, a5]
              · exact absurd (o.2.2.mp (Classical.not_not.mp b4)) b5
            · rcases h5 with ⟨a5, b5⟩ | ⟨a5, _⟩
              · exact absurd (o.2.2.mpr (Classical.not_not.mp b5)) b4
              · rw [a4, a5]
          · have eq := Classical.not_not.mp eq
            rcases h4 with ⟨a4, b4⟩ | ⟨a4, b4⟩
            · rcases h5 with ⟨_, b5⟩ | ⟨a5, _⟩
              · exact ⟨fun _ => Classical.not_not.mp b5, fun _ => Classical.not_not.mp b4⟩
              · rw [a4, a5] at eq; exact absurd eq (by decide)
            · rcases h5 with ⟨a5, _⟩ | ⟨_, b5⟩
              · rw [a4, a5] at eq; exact absurd eq (by decide)
              · exact ⟨fun k => absurd k b4, fun k => absurd k b5⟩
      · have lt : t < m := by
          by_cases c : t < m
          · exact c
          · exact absurd ((zo_le (k := m) (j := t) (by omega) (by omega)).mpr (by omega)) q
        have t4 : t < 4 := by omega
        rw [zo_at t4]
        refine zp_bind (zp_some ?_)
        rw [ix a t ha t4, zo_nb (m := 40 * a + (15 + 6 * t)) (by omega)]
        refine zp_chk fun _ => zp_bind (zp_some ?_)
        rw [ix b t hb t4, zo_nb (m := 40 * b + (15 + 6 * t)) (by omega)]
        have suc : ∀ (P : Nat → Prop), (∀ u, u < t + 1 → P u) ↔ ((∀ u, u < t → P u) ∧ P t) := fun P => by
          constructor
          · intro h; exact ⟨fun u hu => h u (by omega), h t (by omega)⟩
          · intro h u hu
            by_cases c : u = t
            · rw [c]; exact h.2
            · exact h.1 u (by omega)
        have over : ∀ (x : Nat → Int32) (v : Int32), ANQ (¬ ∀ u, u < t → GON (x (15 + 6 * u))) v → (¬ v = 0 → ¬ ∀ u, u < t + 1 → GON (x (15 + 6 * u))) ∧ (v = 0 → GON (x (15 + 6 * t)) → ∀ u, u < t + 1 → GON (x (15 + 6 * u))) ∧ (¬ GON (x (15 + 6 * t)) → ¬ ∀ u, u < t + 1 → GON (x (15 + 6 * u))) := fun x v h => by
          refine ⟨fun nz k => ?_, fun z g => ?_, fun g k => g (k t (by omega))⟩
          · rcases h with ⟨e, _⟩ | ⟨_, no⟩
            · exact nz e
            · exact no fun u hu => k u (by omega)
          · rcases h with ⟨_, yes⟩ | ⟨e, _⟩
            · exact (suc _).mpr ⟨Classical.not_not.mp yes, g⟩
            · exact absurd (e.symm.trans z) (by decide)
        have fin : ∀ v3' : Int32, ANQ ((∀ f, f < c0 → row40 μ a f = row40 μ b f) ∧ ∀ u, u < t + 1 → (row40 μ a (15 + 6 * u) = 5 ↔ row40 μ b (15 + 6 * u) = 5)) v3' → zp (zb_M_isOutcome_149 (zb_M_isOutcome_66 N n) N μ (Int32.ofNat a) (Int32.ofNat b) v4 v5 (Int32.ofNat t) (row40 μ a (15 + 6 * t)) (row40 μ b (15 + 6 * t)) v3') (fun r => ANQ (OEQ m c0 (row40 μ a) (row40 μ b)) r) := fun v3' h3' => by
          have two : ∀ v4' : Int32, ANQ (¬ ∀ u, u < t + 1 → GON (row40 μ a (15 + 6 * u))) v4' → zp (zb_M_isOutcome_177 (zb_M_isOutcome_66 N n) N μ (Int32.ofNat a) (Int32.ofNat b) v3' v5 (Int32.ofNat t) (row40 μ b (15 + 6 * t)) v4') (fun r => ANQ (OEQ m c0 (row40 μ a) (row40 μ b)) r) := fun v4' h4' => by
            obtain ⟨o1, o2, o3⟩ := over (row40 μ b) v5 h5
            unfold zb_M_isOutcome_177 zb_M_isOutcome_201 zb_M_isOutcome_205 zb_M_isOutcome_206
            rw [zo_1 (m := t) (by omega)]
            refine zp_ite (fun nz => ih (t + 1) v3' v4' 1 (by omega) h3' h4' (Or.inr ⟨rfl, o1 nz⟩)) fun z => ?_
            have z := Classical.not_not.mp z
            exact zp_ite (fun k => ih (t + 1) v3' v4' 0 (by omega) h3' h4' (Or.inl ⟨rfl, fun n => n (o2 z (Or.inl k))⟩)) fun k4 => zp_ite (fun k => ih (t + 1) v3' v4' 0 (by omega) h3' h4' (Or.inl ⟨rfl, fun n => n (o2 z (Or.inr (Or.inl k)))⟩)) fun k5 => zp_ite (fun k => ih (t + 1) v3' v4' 0 (by omega) h3' h4' (Or.inl ⟨rfl, fun n => n (o2 z (Or.inr (Or.inr k)))⟩)) fun k0 => ih (t + 1) v3' v4' 1 (by omega) h3' h4' (Or.inr ⟨rfl, o3 fun g => g.elim k4 fun g => g.elim k5 k0⟩)
          obtain ⟨o1, o2, o3⟩ := over (row40 μ a) v4 h4
          unfold zb_M_isOutcome_149 zb_M_isOutcome_172 zb_M_isOutcome_176
          refine zp_ite (fun nz => two 1 (Or.inr ⟨rfl, o1 nz⟩)) fun z => ?_
          have z := Classical.not_not.mp z
          exact zp_ite (fun k => two 0 (Or.inl ⟨rfl, fun n => n (o2 z (Or.inl k))⟩)) fun k4 => zp_ite (fun k => two 0 (Or.inl ⟨rfl, fun n => n (o2 z (Or.inr (Or.inl k)))⟩)) fun k5 => zp_ite (fun k => two 0 (Or.inl ⟨rfl, fun n => n (o2 z (Or.inr (Or.inr k)))⟩)) fun k0 => two 1 (Or.inr ⟨rfl, o3 fun g => g.elim k4 fun g => g.elim k5 k0⟩)
        have bad : (¬ (row40 μ a (15 + 6 * t) = 5 ↔ row40 μ b (15 + 6 * t) = 5) ∨ v3 = 0) → ANQ ((∀ f, f < c0 → row40 μ a f = row40 μ b f) ∧ ∀ u, u < t + 1 → (row40 μ a (15 + 6 * u) = 5 ↔ row40 μ b (15 + 6 * u) = 5)) 0 := fun h => Or.inl ⟨rfl, fun k => by
          rcases h with h | h
          · exact h (k.2 t (by omega))
          · rcases h3 with ⟨_, no⟩ | ⟨e, _⟩
            · exact no ⟨k.1, fun u hu => k.2 u (by omega)⟩
            · exact absurd (e.symm.trans h) (by decide)⟩
        have good : (row40 μ a (15 + 6 * t) = 5 ↔ row40 μ b (15 + 6 * t) = 5) → ¬ v3 = 0 → ANQ ((∀ f, f < c0 → row40 μ a f = row40 μ b f) ∧ ∀ u, u < t + 1 → (row40 μ a (15 + 6 * u) = 5 ↔ row40 μ b (15 + 6 * u) = 5)) 1 := fun h nz => by
          rcases h3 with ⟨e, _⟩ | ⟨_, yes⟩
          · exact absurd e nz
          · exact Or.inr ⟨rfl, yes.1, (suc _).mpr ⟨yes.2, h⟩⟩
        unfold zb_M_isOutcome_130 zb_M_isOutcome_141 zb_M_isOutcome_148
        refine zp_chk fun _ => zp_ite (fun z => fin 0 (bad (Or.inr z))) fun nz => zp_ite (fun n1 => zp_ite (fun n2 => zp_ite (fun q => absurd rfl q) fun _ => fin 1 (good ⟨fun k => absurd k n1, fun k => absurd k n2⟩ nz)) fun y2 => zp_ite (fun _ => fin 0 (bad (Or.inl fun k => n1 (k.mpr (Classical.not_not.mp y2))))) fun q => absurd q (by decide)) fun y1 => zp_ite (fun n2 => zp_ite (fun _ => fin 0 (bad (Or.inl fun k => n2 (k.mp (Classical.not_not.mp y1))))) fun q => absurd q (by decide)) fun y2 => zp_ite (fun q => absurd rfl q) fun _ => fin 1 (good ⟨fun _ => Classical.not_not.mp y2, fun _ => Classical.not_not.mp y1⟩ nz)
  have fld : ∀ (n f : Nat) (v3 : Int32), f ≤ c0 → ANQ (∀ g, g < f → row40 μ a g = row40 μ b g) v3 → zp (zb_M_isOutcome_5 N n μ (Int32.ofNat a) (Int32.ofNat b) v3 (Int32.ofNat f)) (fun r => ANQ (OEQ m c0 (row40 μ a) (row40 μ b)) r) := by
    intro n
    induction n with
    | zero => intro _ _ _ _; exact zp_none
    | succ n ih =>
      intro f v3 hf h3
      rw [zb_M_isOutcome_5, e15]
      unfold zb_M_isOutcome_49 zb_M_isOutcome_50
      refine zp_ite (fun q => ?_) fun q => ?_
      · have fc : f = c0 := by
          have := (zo_le (k := c0) (j := f) (by omega) (by omega)).mp q
          omega
        subst fc
        refine thr N 0 v3 0 0 (by omega) ?_ (Or.inl ⟨rfl, fun n => n fun u hu => absurd hu (Nat.not_lt_zero _)⟩) (Or.inl ⟨rfl, fun n => n fun u hu => absurd hu (Nat.not_lt_zero _)⟩)
        rcases h3 with ⟨e, no⟩ | ⟨e, yes⟩
        · exact Or.inl ⟨e, fun k => no k.1⟩
        · exact Or.inr ⟨e, yes, fun u hu => absurd hu (Nat.not_lt_zero _)⟩
      · have lt : f < c0 := by
          by_cases c : f < c0
          · exact c
          · exact absurd ((zo_le (k := c0) (j := f) (by omega) (by omega)).mpr (by omega)) q
        rw [zo_1 (m := f) (by omega), zo_mul40 (s := a) (i := f) (by omega) (by omega), zo_mul40 (s := b) (i := f) (by omega) (by omega), zo_nb (m := 40 * a + f) (by omega), zo_nb (m := 40 * b + f) (by omega)]
        refine zp_ite (fun z => ih (f + 1) 0 (by omega) (Or.inl ⟨rfl, fun k => ?_⟩)) fun nz => zp_chk fun _ => zp_chk fun _ => zp_ite (fun ne => ih (f + 1) 0 (by omega) (Or.inl ⟨rfl, fun k => ne (k f (by omega))⟩)) fun eq => ih (f + 1) 1 (by omega) ?_
        · rcases h3 with ⟨_, no⟩ | ⟨e, _⟩
          · exact no fun g hg => k g (by omega)
          · exact absurd (e.symm.trans z) (by decide)
        · rcases h3 with ⟨e, _⟩ | ⟨_, yes⟩
          · exact absurd e nz
          · refine Or.inr ⟨rfl, fun g hg => ?_⟩
            by_cases c : g = f
            · rw [c]; exact Classical.not_not.mp eq
            · exact yes g (by omega)
  unfold zf_M_isOutcome
  exact fld N 0 1 (by omega) (Or.inr ⟨rfl, fun g hg => absurd hg (Nat.not_lt_zero _)⟩)
def XT (μ : zS) (s : Nat) : Nat → Int32 := row40 μ (4000 + s)
noncomputable def OLS (m c0 : Nat) (L : Nat → Int32) (X : Nat → Nat → Int32) (S : Nat) : List Nat := (lst (pOut m c0 L X) 0 S).map fun s => 4000 + s
def RGF (o m : Nat) (len : Nat → Nat) (nc : Nat → Nat → Nat) (ρ : zS) (W : Nat → Nat → Int32) (c0 : Nat) (L : Nat → Int32) (S n : Nat) (v4 : Int32) (μ0 μ : zS) : Prop := PC m len nc ρ μ ∧ RTB 4000 n μ ∧ (∀ j, j < n → STF o m len nc ρ (W j) (XT μ j)) ∧ ((∀ i, i < 160000 → μ 108 i = μ0 108 i) ∧ μ 115 = μ0 115 ∧ μ 97 = μ0 97 ∧ μ 82 60 = μ0 82 60) ∧ (S ≤ n ∧ (c0 ≤ 6 ∧ μ 82 15 = Int32.ofNat c0) ∧ (∀ j, j < n → ∀ f, c0 ≤ f → f < 6 → XT μ j f = 0) ∧ STL v4 (μ 117) (OLS m c0 L (XT μ) S))
theorem OLS.cg {m c0 S : Nat} {L : Nat → Int32} {X X' : Nat → Nat → Int32} (m4 : m ≤ 4) (c6 : c0 ≤ 6) (e : ∀ s, s < S → ∀ i, i < 40 → X' s i = X s i) : OLS m c0 L X' S = OLS m c0 L X S := by
  unfold OLS
  rw [lst_out m4 c6 e]
theorem RGF.of {o m c0 S n : Nat} {len : Nat → Nat} {nc : Nat → Nat → Nat} {ρ μ0 μ ν : zS} {W : Nat → Nat → Int32} {L : Nat → Int32} {v4 : Int32} (h : RGF o m len nc ρ W c0 L S n v4 μ0 μ) (e : ∀ q, (88 ≤ q ∧ q ≤ 101) ∨ (108 ≤ q ∧ q ≤ 110) ∨ q = 115 ∨ q = 117 → ν q = μ q) (e82 : ν 82 17 = μ 82 17 ∧ ν 82 51 = μ 82 51 ∧ ν 82 52 = μ 82 52 ∧ ν 82 15 = μ 82 15 ∧ ν 82 60 = μ 82 60) : RGF o m len nc ρ W c0 L S n v4 μ0 ν := by
  obtain ⟨h1, h2, h3, ⟨g1, g2, g3, g4⟩, k1, k2, k3, k4⟩ := h
  have r : XT ν = XT μ := by
    funext j
    unfold XT row40
    rw [e 108 (by decide)]
  refine ⟨h1.q (fun q hq => e q (by omega)) e82.1, h2.of (fun q hq => e q (by omega)) ⟨e82.2.1, e82.2.2.1⟩, by rw [r]; exact h3, ⟨by rw [e 108 (by decide)]; exact g1, (e 115 (by decide)).trans g2, (e 97 (by decide)).trans g3, e82.2.2.2.2.trans g4⟩, k1, ⟨k2.1, e82.2.2.2.1.trans k2.2⟩, by rw [r]; exact k3, by rw [r, e 117 (by decide)]; exact k4⟩
theorem RGF.f107 {o m c0 S n : Nat} {len : Nat → Nat} {nc : Nat → Nat → Nat} {ρ μ0 μ ν : zS} {W : Nat → Nat → Int32} {L : Nat → Int32} {v4 : Int32} (h : RGF o m len nc ρ W c0 L S n v4 μ0 μ) (f : ∀ q, q ≠ 107 → ν q = μ q) : RGF o m len nc ρ W c0 L S n v4 μ0 ν := h.of (fun q hq => f q (by omega)) ⟨by rw [f 82 (by decide)], by rw [f 82 (by decide)], by rw [f 82 (by decide)], by rw [f 82 (by decide)], by rw [f 82 (by decide)]⟩
theorem m_thrF {k63 : zS → Int32 → Int32 → Int32 → Int32 → Option (Int32 × zS)} {Te : Nat} {N o m c0 S nF : Nat} {sp v4 v6 : Int32} {len : Nat → Nat} {nc : Nat → Nat → Nat} {ρ μ0 : zS} {W : Nat → Nat → Int32} {A : Nat → Int32} {M : Nat → Nat → Nat} {V : Nat → Nat → Int32} {L : Nat → Int32} {R : Int32 × zS → Prop} (so : SPO o m len ρ sp) (s97 : ∀ t z, t < m → z < len t → μ0 97 (24 * t + z) = ρ 12 (24 * t + z)) (nwr : NWR m len c0 ρ) (Tm : Te ≤ m) (n4 : nF ≤ 4000) (dis : ∀ i j, i < j → j < nF → ¬ SAME5 (W i) (W j)) (al : (A S = -1 ∧ v6 = 0) ∨ (A S = Int32.ofNat o ∧ v6 = 1)) (suc : ∀ t, t < Te → M S (t + 1) ≤ nF ∧ SUF o sp m len nc ρ W A M V S t) (kont : ∀ (k : Nat) (μ : zS), RGF o m len nc ρ W c0 L S (M S Te) v4 μ0 μ → S < M S Te → zp (zb_M_whole_147 k63 N k μ sp (Int32.ofNat o) v4 (Int32.ofNat (4000 + S)) v6 (V S Te) (Int32.ofNat Te)) R) : ∀ (k T : Nat) (μ : zS) (v7 : Int32), v7 = V S T → T ≤ Te → RGF o m len nc ρ W c0 L S (M S T) v4 μ0 μ → S < M S T → M S T ≤ nF → zp (zb_M_whole_147 k63 N k μ sp (Int32.ofNat o) v4 (Int32.ofNat (4000 + S)) v6 v7 (Int32.ofNat T)) R := by
  intro k
  induction k with
  | zero => intro _ _ _ _ _ _ _ _; exact zp_none
  | succ k ih =>
    intro T μ v7 hv hT rg hS hn
    by_cases c : T = Te
    · subst c hv; exact kont (k + 1) μ rg hS
    have lt : T < Te := by omega
    obtain ⟨sn, su⟩ := suc T lt
    have om := so.1
    have pc := rg.1
    have m4 := pc.1.1
    have e17 : μ 82 17 = Int32.ofNat m := pc.1.2.2
    rw [zb_M_whole_147, e17]
    unfold zb_M_whole_296
    refine zp_ite (fun q => ?_) fun _ => zp_bind (zp_mono (m_load (b := 0) (n := 0) (s := 4000 + S) (by omega)) fun r30 h30 => ?_)
    · have := (zo_le (k := m) (j := T) (by omega) (by omega)).mp q
      omega
    obtain ⟨fr, row⟩ := h30
    have rg2 := rg.f107 fr
    have pc2 := rg2.1
    have st : STF o m len nc ρ (W S) (r30 107) := (rg.2.2.1 S hS).congr om m4 SAME5.rfl' row
    have tm : T < m := by omega
    have t4 : T < 4 := by omega
    have o4 : o < 4 := by omega
    rw [zo_1 (m := T) (by omega)]
    rcases su with ⟨nm, eM, eV⟩ | ⟨may, ⟨σ, lo, e⟩, eM, eV⟩ | ⟨may, ⟨a, na, σ, lo, e⟩, eV, j, mv, hj⟩
    · have cont := ih (T + 1) r30 v7 (hv.trans eV.symm) (by omega) (by rw [eM]; exact rg2) (by rw [eM]; exact hS) (by rw [eM]; exact hn)
      have al := al.resolve_left fun q => nm (Or.inl q.1)
      refine zp_bind fun r31 _ => zp_ite (fun _ => cont) fun _ => zp_ite (fun z => absurd (al.2.symm.trans z) (by decide)) fun _ => zp_ite (fun _ => cont) fun y => ?_
      exact absurd (Or.inr (al.1.trans (Classical.not_not.mp y).symm)) nm
    · refine zp_bind (zp_mono (p_canF pc2 st (lo _ st) (fun _ _ => rfl) tm _ e) fun b hb => ?_)
      exact zp_ite (fun _ => ih (T + 1) r30 v7 (hv.trans eV.symm) (by omega) (by rw [eM]; exact rg2) (by rw [eM]; exact hS) (by rw [eM]; exact hn)) fun q => absurd hb.1.symm q
    · refine zp_bind (zp_mono (p_canF pc2 st (lo _ st) (fun _ _ => rfl) tm _ e) fun b hb => ?_)
      obtain ⟨e1, e2, e3⟩ := hb
      have a1 : a = 1 := e2.resolve_left na
      have cx := e3 a1
      refine zp_ite (fun q => absurd (e1.trans q) na) fun _ => ?_
      obtain ⟨N0, σ0, r0, lo0, e0, same⟩ := mv
      have st' := st
      obtain ⟨f, f1, s0, _⟩ := st'
      obtain ⟨_, z, zL, es⟩ := can_at s0 tm cx
      have l24 : ∀ t, t < m → len t ≤ 24 := fun t ht => (pc2.2.1 t ht).1
      have z24' : z < 24 := Nat.lt_of_lt_of_le zL (l24 T tm)
      have D : zp (zb_M_whole_182 (zb_M_whole_147 k63 N k) N r30 sp (Int32.ofNat o) v4 (Int32.ofNat (4000 + S)) v6 (Int32.ofNat T)) R := by
        unfold zb_M_whole_182 zf_M_at
        rw [zo_at t4]
        refine zp_bind (zp_some ?_)
        rw [zo_n (m := 14 + 6 * T) (by omega), es, (z24 t4 (by omega)).2.1]
        have flz : zp (zf_M_doStep N r30 (Int32.ofNat T)) (fun s => ∀ f, c0 ≤ f → f < 6 → s 107 f = r30 107 f) := fun s es f a b => m_doStepF pc2.nmk s0 (fun _ _ => rfl) tm cx b (fun z hz k7 => nwr T z f tm hz k7 a b) s es
        refine zp_chk fun _ => zp_bind (zp_mono (zp_and (p_moveF (N := N0) (N' := N) pc2 so st (lo0 _ st) tm cx r0 e0) flz) fun r36 h36 => ?_)
        obtain ⟨⟨f36, x38, mk⟩, fz⟩ := h36
        have rg3 := rg2.f107 f36
        have put : ∀ y0 y : Int32, NMK o T ρ sp (r30 107) (r36 107) y → zp (zb_M_whole_284 (zb_M_whole_147 k63 N k) N (zx_up r36 107 38 y0) sp (Int32.ofNat o) v4 (Int32.ofNat (4000 + S)) v6 0 (Int32.ofNat T) y 38) R := fun y0 y hy => by
          unfold zb_M_whole_284 zb_M_whole_296
          rw [show (38 : Int32).toNatClampNeg = 38 from rfl, zo_1 (m := T) (by omega)]
          have Z1 : ∀ i, i < 40 → i ≠ 38 → (zx_up (zx_up r36 107 38 y0) 107 38 y) 107 i = r36 107 i := fun i _ ne => by rw [zx_up_same, zu_ne ne, zx_up_same, zu_ne ne]
          have Z2 : (zx_up (zx_up r36 107 38 y0) 107 38 y) 107 38 = y := by rw [zx_up_same, zu_eq]
          have Zq : ∀ q, q ≠ 107 → (zx_up (zx_up r36 107 38 y0) 107 38 y) q = r36 q := fun q hq => by rw [zu_other hq, zu_other hq]
          generalize (zx_up (zx_up r36 107 38 y0) 107 38 y) = Z at Z1 Z2 Zq ⊢
          have rgZ := rg3.f107 Zq
          have stZ : STF o m len nc ρ (W j) (Z 107) := (mk y (Z 107) hy Z1 Z2).congr om m4 same.sy (fun _ _ => rfl)
          refine zp_chk fun _ => zp_bind (zp_mono (m_put (N := N) rgZ.2.1 (stZ.byte rgZ.1)) fun r42 h42 => ?_)
          rcases h42 with ⟨i, i1, i2, e, s⟩ | ⟨no, h42⟩
          · rw [e]
            have sw := STF.bwd m4 (rgZ.2.2.1 (i - 4000) (by omega)) stZ (by unfold XT; rw [show 4000 + (i - 4000) = i by omega]; exact s)
            refine zp_ite (fun _ => ?_) fun q => absurd (zo_ne (by omega)) q
            rcases hj with ⟨_, eM⟩ | ⟨ej, eM⟩
            · exact ih (T + 1) Z 0 eV.symm (by omega) (by rw [eM]; exact rgZ) (by rw [eM]; exact hS) (by rw [eM]; exact hn)
            · rw [ej] at sw
              exact absurd sw (dis (i - 4000) (M S T) (by omega) (by omega))
          · rcases hj with ⟨lj, eM⟩ | ⟨ej, eM⟩
            · exact absurd (STF.fwd o4 m4 l24 (rgZ.2.2.1 j lj) stZ SAME5.rfl') (no (4000 + j) (by omega) (by omega))
            · rcases h42 with ⟨nn, e, rn⟩ | ⟨nn, _⟩
              · obtain ⟨rb, rnew, rold, f42, f82⟩ := rn
                have rold' : ∀ s, s ≠ M S T → ∀ i, i < 40 → XT r42.2 s i = XT Z s i := fun s ne => rold (4000 + s) (by omega)
                have rg4 : RGF o m len nc ρ W c0 L S (M S T + 1) v4 μ0 r42.2 := by
                  have pcZ := rgZ.1
                  obtain ⟨_, _, g3, ⟨g4, g5, g6, g7⟩, k1, k2, k3, k4⟩ := rgZ
                  refine ⟨pcZ.q (fun q hq => f42 q (by omega) (by omega) (by omega) (by omega)) (f82 17 (by decide)), rb, fun i hi => ?_, ⟨fun i hi => ?_, (f42 115 (by decide) (by decide) (by decide) (by decide)).trans g5, (f42 97 (by decide) (by decide) (by decide) (by decide)).trans g6, (f82 60 (by decide)).trans g7⟩, by omega, ⟨k2.1, (f82 15 (by decide)).trans k2.2⟩, fun i hi f a b => ?_, ?_⟩
                  · by_cases d : i = M S T
                    · rw [d, ← ej]
                      refine stZ.congr om m4 SAME5.rfl' fun i hi => ?_
                      rw [ej]
                      exact rnew i hi
                    · exact (g3 i (by omega)).congr om m4 SAME5.rfl' (rold' i d)
                  · have q := rold (i / 40) (by omega) (i % 40) (Nat.mod_lt _ (by decide))
                    unfold row40 at q
                    rw [show 40 * (i / 40) + i % 40 = i by omega] at q
                    exact q.trans (g4 i hi)
                  · by_cases d : i = M S T
                    · rw [d]
                      have q : XT r42.2 (M S T) f = Z 107 f := rnew f (by omega)
                      rw [q, Z1 f (by omega) (by omega), fz f a b, row f (by omega)]
                      exact rg.2.2.2.2.2.2.1 S hS f a b
                    · rw [rold' i d f (by omega)]
                      exact k3 i (by omega) f a b
                  · rw [f42 117 (by decide) (by decide) (by decide) (by decide), OLS.cg (X := XT Z) m4 k2.1 fun s hs => rold' s (by omega)]
                    exact k4
                refine zp_ite (fun _ => ?_) fun q => absurd (by rw [e]; exact zo_ne (by omega)) q
                exact ih (T + 1) r42.2 0 eV.symm (by omega) (by rw [eM]; exact rg4) (by rw [eM]; omega) (by omega)
              · omega
        have st36 : ∀ y0 : Int32, zp (zf_M_stateOf (zx_up r36 107 38 y0) (Int32.ofNat o)) (fun r => r = r36 107 (15 + 6 * o)) := fun y0 => zp_mono (m_stateOf o4) fun r e => by
          rw [zx_up_same, zu_ne (by omega)] at e
          exact e
        have F : ∀ y0 : Int32, ((T ≠ o → y0 = r30 107 38) ∧ (T = o → (ρ 12 (24 * T + z) = sp → y0 = 1) ∧ (¬ ρ 12 (24 * T + z) = sp → y0 = 0))) → zp (zb_M_whole_248 (zb_M_whole_147 k63 N k) N r36 sp (Int32.ofNat o) v4 (Int32.ofNat (4000 + S)) v6 0 (Int32.ofNat T) y0 38) R := fun y0 hy => by
          unfold zb_M_whole_248 zb_M_whole_273
          rw [show (38 : Int32).toNatClampNeg = 38 from rfl]
          refine zp_chk fun _ => zp_bind (zp_mono (st36 y0) fun r39 e39 => zp_ite (fun y4 => put y0 0 ⟨fun _ => rfl, fun n => absurd (Or.inl (e39.symm.trans y4)) n⟩) fun n4' => zp_bind (zp_mono (st36 y0) fun r44 e44 => zp_ite (fun n5 => ?_) fun y5 => put y0 0 ⟨fun _ => rfl, fun n => absurd (Or.inr (e44.symm.trans (Classical.not_not.mp y5))) n⟩))
          rw [show (zx_up r36 107 38 y0) 107 38 = y0 by rw [zx_up_same, zu_eq]]
          refine put y0 y0 ⟨fun g => ?_, fun _ => ⟨hy.1, fun to z' hz' es' => ?_⟩⟩
          · rcases g with g | g
            · exact absurd (e39.trans g) n4'
            · exact absurd (e44.trans g) n5
          · have : z' = z := zo_inj (by omega) (by omega) (es'.symm.trans es)
            rw [this]
            exact hy.2 to
        have e97 : r36 97 (24 * T + z) = ρ 12 (24 * T + z) := by rw [rg3.2.2.2.1.2.2.1]; exact s97 T z tm zL
        rw [e97]
        refine zp_ite (fun ne => F _ ⟨fun _ => x38, fun to => absurd (by rw [to]) ne⟩) fun eq => zp_chk fun _ => ?_
        have to : T = o := zo_inj (by omega) (by omega) (Classical.not_not.mp eq)
        exact zp_ite (fun n12 => F 0 ⟨fun n => absurd to n, fun _ => ⟨fun y => absurd y n12, fun _ => rfl⟩⟩) fun y12 => F 1 ⟨fun n => absurd to n, fun _ => ⟨fun _ => rfl, fun n => absurd (Classical.not_not.mp y12) n⟩⟩
      refine zp_ite (fun _ => D) fun nz => zp_ite (fun ne => ?_) fun _ => D
      have al := al.resolve_left fun q => nz q.2
      rcases may with y | y
      · exact absurd (al.1.symm.trans y) (zo_ne (by omega))
      · exact absurd (al.1.symm.trans y).symm ne
theorem m_outF {k63 : zS → Int32 → Int32 → Int32 → Int32 → Option (Int32 × zS)} {N o m c0 S n : Nat} {sp v4 : Int32} {len : Nat → Nat} {nc : Nat → Nat → Nat} {ρ μ0 μ : zS} {W : Nat → Nat → Int32} {L : Nat → Int32} {R : Int32 × zS → Prop} (hS : S < n) (v01 : L S = 0 ∨ L S = 1) (rg : RGF o m len nc ρ W c0 L S n v4 μ0 μ) (kk : ∀ (v4' : Int32) (μ' : zS), RGF o m len nc ρ W c0 L (S + 1) n v4' μ0 μ' → zp (k63 μ' sp (Int32.ofNat o) v4' (Int32.ofNat (4000 + (S + 1)))) R) : (L S = 0 → zp (zb_M_whole_371 k63 N μ sp (Int32.ofNat o) v4 (Int32.ofNat (4000 + S))) R) ∧ (L S = 1 → zp (zb_M_whole_313 k63 N N μ sp (Int32.ofNat o) v4 (Int32.ofNat (4000 + S)) 1 0) R) := by
  have rg' := rg
  obtain ⟨pc, rb, g3, g4, k1, k2, k3, sl⟩ := rg
  have m4 := pc.1.1
  have n4 := rb.1.1
  have e17 : μ 82 17 = Int32.ofNat m := pc.1.2.2
  have ln := lst_len (p := pOut m c0 L (XT μ)) S 0
  have oln : (OLS m c0 L (XT μ) S).length = (lst (pOut m c0 L (XT μ)) 0 S).length := List.length_map ..
  have gv4 : v4 = Int32.ofNat (lst (pOut m c0 L (XT μ)) 0 S).length := by rw [← oln]; exact sl.1
  have s5 : Int32.ofNat (4000 + S) + 1 = Int32.ofNat (4000 + (S + 1)) := by rw [zo_1 (m := 4000 + S) (by omega), show 4000 + S + 1 = 4000 + (S + 1) by omega]
  have sl1 : ∀ i (y : Nat), (lst (pOut m c0 L (XT μ)) 0 S)[i]? = some y → μ 117 i = Int32.ofNat (4000 + y) := fun i y e => sl.2 i (4000 + y) (by unfold OLS; rw [List.getElem?_map, e]; rfl)
  have keep : ¬ pOut m c0 L (XT μ) S → zp (zb_M_whole_371 k63 N μ sp (Int32.ofNat o) v4 (Int32.ofNat (4000 + S))) R := fun no => by
    unfold zb_M_whole_371
    rw [s5]
    refine kk v4 μ ⟨pc, rb, g3, g4, by omega, k2, k3, ?_⟩
    unfold OLS
    rw [lst_no no]
    exact sl
  refine ⟨fun z => keep fun p => absurd (z.symm.trans p.1) (by decide), fun last => ?_⟩
  have fin : ∀ v8 : Int32, ANQ (∀ i y, (lst (pOut m c0 L (XT μ)) 0 S)[i]? = some y → ¬ OEQ m c0 (XT μ y) (XT μ S)) v8 → zp (zb_M_whole_354 k63 N μ sp (Int32.ofNat o) v4 (Int32.ofNat (4000 + S)) v8) R := fun v8 h8 => by
    unfold zb_M_whole_354
    rcases h8 with ⟨e, no⟩ | ⟨e, yes⟩
    · refine zp_ite (fun _ => keep fun p => no fun i y ge q => ?_) fun z => absurd e z
      have mem := (lst_mem (p := pOut m c0 L (XT μ)) S 0 y).mp (List.mem_of_getElem? ge)
      exact p.2 y (by omega) mem.2.2.1 q
    · have new : pOut m c0 L (XT μ) S := ⟨last, fun s' h1 h2 h3 => by
        obtain ⟨y, y1, y2, y3⟩ := out_cover (m := m) (c0 := c0) (L := L) (X := XT μ) S s' h1 h2
        have mem : y ∈ lst (pOut m c0 L (XT μ)) 0 S := (lst_mem S 0 y).mpr ⟨by omega, by omega, y2⟩
        obtain ⟨i, hi, ge⟩ := List.mem_iff_getElem.mp mem
        exact yes i y (by rw [List.getElem?_eq_getElem hi, ge]) (y3.tr h3)⟩
      refine zp_ite (fun z => absurd (e.symm.trans z) (by decide)) fun _ => zp_chk fun _ => ?_
      unfold zb_M_whole_371
      rw [s5, gv4, zo_n (m := (lst (pOut m c0 L (XT μ)) 0 S).length) (by omega), zo_1 (m := (lst (pOut m c0 L (XT μ)) 0 S).length) (by omega)]
      have up : ∀ q, q ≠ 117 → (zx_up μ 117 (lst (pOut m c0 L (XT μ)) 0 S).length (Int32.ofNat (4000 + S))) q = μ q := fun q hq => zu_other hq
      have up17 : (zx_up μ 117 (lst (pOut m c0 L (XT μ)) 0 S).length (Int32.ofNat (4000 + S))) 117 = zu (μ 117) (lst (pOut m c0 L (XT μ)) 0 S).length (Int32.ofNat (4000 + S)) := zx_up_same ..
      generalize (zx_up μ 117 (lst (pOut m c0 L (XT μ)) 0 S).length (Int32.ofNat (4000 + S))) = ν at up up17 ⊢
      have r : XT ν = XT μ := by
        funext j
        unfold XT row40
        rw [up 108 (by decide)]
      refine kk _ ν ⟨pc.q (fun q hq => up q (by omega)) (by rw [up 82 (by decide)]), rb.of (fun q hq => up q (by omega)) ⟨by rw [up 82 (by decide)], by rw [up 82 (by decide)]⟩, by rw [r]; exact g3, ⟨by rw [up 108 (by decide)]; exact g4.1, (up 115 (by decide)).trans g4.2.1, (up 97 (by decide)).trans g4.2.2.1, by rw [up 82 (by decide)]; exact g4.2.2.2⟩, by omega, ⟨k2.1, by rw [up 82 (by decide)]; exact k2.2⟩, by rw [r]; exact k3, ?_⟩
      have sn := STL.snoc (y := 4000 + S) sl
      rw [oln] at sn
      rw [r, up17]
      unfold OLS
      rw [lst_y new, List.map_append]
      exact sn
  have lp : ∀ (n' j : Nat) (v8 : Int32), j ≤ (lst (pOut m c0 L (XT μ)) 0 S).length → ANQ (∀ i y, i < j → (lst (pOut m c0 L (XT μ)) 0 S)[i]? = some y → ¬ OEQ m c0 (XT μ y) (XT μ S)) v8 → zp (zb_M_whole_313 k63 N n' μ sp (Int32.ofNat o) v4 (Int32.ofNat (4000 + S)) v8 (Int32.ofNat j)) R := by
    intro n'
    induction n' with
    | zero => intro _ _ _ _; exact zp_none
    | succ n' ih =>
      intro j v8 hj h8
      rw [zb_M_whole_313]
      unfold zb_M_whole_346
      refine zp_ite (fun q => fin v8 ?_) fun q => zp_ite (fun z => fin v8 ?_) fun nz => zp_chk fun _ => ?_
      · rw [gv4] at q
        have jl : (lst (pOut m c0 L (XT μ)) 0 S).length ≤ j := (zo_le (k := (lst (pOut m c0 L (XT μ)) 0 S).length) (j := j) (by omega) (by omega)).mp q
        rcases h8 with ⟨e, no⟩ | ⟨e, yes⟩
        · exact Or.inl ⟨e, fun k => no fun i y _ ge => k i y ge⟩
        · exact Or.inr ⟨e, fun i y ge => yes i y (by have := (List.getElem?_eq_some_iff.mp ge).1; omega) ge⟩
      · rcases h8 with ⟨e, no⟩ | ⟨e, _⟩
        · exact Or.inl ⟨e, fun k => no fun i y _ ge => k i y ge⟩
        · exact absurd (e.symm.trans z) (by decide)
      · rw [gv4] at q
        have jl : j < (lst (pOut m c0 L (XT μ)) 0 S).length := by
          by_cases c : j < (lst (pOut m c0 L (XT μ)) 0 S).length
          · exact c
          · exact absurd ((zo_le (k := (lst (pOut m c0 L (XT μ)) 0 S).length) (j := j) (by omega) (by omega)).mpr (by omega)) q
        have ge := List.getElem?_eq_getElem jl
        have mem := (lst_mem (p := pOut m c0 L (XT μ)) S 0 _).mp (List.mem_of_getElem? ge)
        rw [zo_n (m := j) (by omega), zo_1 (m := j) (by omega), sl1 j _ ge]
        refine zp_bind (zp_mono (m_isOutcomeB m4 k2.1 k2.2 e17 (by omega) (by omega)) fun r28 h28 => ?_)
        have h28 : ANQ (OEQ m c0 (XT μ ((lst (pOut m c0 L (XT μ)) 0 S)[j])) (XT μ S)) r28 := h28
        have yes8 := h8.resolve_left fun k => nz k.1
        rcases h28 with ⟨e, no⟩ | ⟨e, yes⟩
        · refine zp_ite (fun q => absurd e q) fun _ => ih (j + 1) 1 (by omega) (Or.inr ⟨rfl, fun i y hi ge' => ?_⟩)
          by_cases c : i = j
          · rw [c, ge] at ge'
            injection ge' with ge'
            rw [← ge']
            exact no
          · exact yes8.2 i y (by omega) ge'
        · exact zp_ite (fun _ => ih (j + 1) 0 (by omega) (Or.inl ⟨rfl, fun k => k j _ (by omega) ge yes⟩)) fun q => absurd (by rw [e]; decide) q
  exact lp N 0 1 (by omega) (Or.inr ⟨rfl, fun i y hi => absurd hi (Nat.not_lt_zero _)⟩)
theorem vvF {o m : Nat} {sp : Int32} {len : Nat → Nat} {nc : Nat → Nat → Nat} {ρ : zS} {W : Nat → Nat → Int32} {A : Nat → Int32} {M : Nat → Nat → Nat} {V : Nat → Nat → Int32} (S : Nat) (suc : ∀ t, t < m → SUF o sp m len nc ρ W A M V S t) (v0 : V S 0 = 1) : V S m = 0 ∨ V S m = 1 := by
  have go : ∀ t, t ≤ m → V S t = 0 ∨ V S t = 1 := by
    intro t
    induction t with
    | zero => intro _; exact Or.inr v0
    | succ t ih =>
      intro ht
      rcases suc t (by omega) with ⟨_, _, f⟩ | ⟨_, _, _, f⟩ | ⟨_, _, f, _⟩
      · rw [f]; exact ih (by omega)
      · rw [f]; exact ih (by omega)
      · exact Or.inl f
  exact go m (Nat.le_refl _)
theorem p_alone {N k o m c0 S n : Nat} {sp v4 : Int32} {len : Nat → Nat} {nc : Nat → Nat → Nat} {ρ μ0 μ : zS} {W : Nat → Nat → Int32} {L : Nat → Int32} {a : Int32} {R : Int32 × zS → Prop} (so : SPO o m len ρ sp) (s97 : ∀ t z, t < m → z < len t → μ0 97 (24 * t + z) = ρ 12 (24 * t + z)) (hS : S < n) (rg : RGF o m len nc ρ W c0 L S n v4 μ0 μ) (al : ALF o sp m len nc ρ (W S) a) (kk : ∀ (v6 : Int32) (μ' : zS), (a = -1 ∧ v6 = 0) ∨ (a = Int32.ofNat o ∧ v6 = 1) → RGF o m len nc ρ W c0 L S n v4 μ0 μ' → zp (zb_M_whole_147 (zb_M_whole_63 N k) N N μ' sp (Int32.ofNat o) v4 (Int32.ofNat (4000 + S)) v6 1 0) R) : zp ((zf_M_load N μ (Int32.ofNat (4000 + S))).bind fun r19 => if ¬ (r19 107 38) = 1 then zb_M_whole_138 (zb_M_whole_63 N k) N r19 sp (Int32.ofNat o) v4 (Int32.ofNat (4000 + S)) else (zf_M_stateOf r19 (Int32.ofNat o)).bind fun r49 => if ¬ r49 = 1 then zb_M_whole_138 (zb_M_whole_63 N k) N r19 sp (Int32.ofNat o) v4 (Int32.ofNat (4000 + S)) else (zf_M_at r19 (Int32.ofNat o)).bind fun r51 => if 0 ≤ r51 ∧ r51 < 40 then (if 0 ≤ ((24 * Int32.ofNat o) + (r19 107 r51.toNatClampNeg)) ∧ ((24 * Int32.ofNat o) + (r19 107 r51.toNatClampNeg)) < 96 then (if ¬ (r19 97 ((24 * Int32.ofNat o) + (r19 107 r51.toNatClampNeg)).toNatClampNeg) = sp then zb_M_whole_138 (zb_M_whole_63 N k) N r19 sp (Int32.ofNat o) v4 (Int32.ofNat (4000 + S)) else (zf_M_canStep r19 (Int32.ofNat o)).bind fun r55 => if r55 = 0 then zb_M_whole_138 (zb_M_whole_63 N k) N r19 sp (Int32.ofNat o) v4 (Int32.ofNat (4000 + S)) else zb_M_whole_139 (zb_M_whole_63 N k) N r19 sp (Int32.ofNat o) v4 (Int32.ofNat (4000 + S)) 1) else none) else none) R := by
  have om := so.1
  have pc := rg.1
  have m4 := pc.1.1
  have n4 := rg.2.1.1.1
  have o4 : o < 4 := by omega
  refine zp_bind (zp_mono (m_load (b := 0) (n := 0) (s := 4000 + S) (by omega)) fun r19 h19 => ?_)
  obtain ⟨fr, row⟩ := h19
  have rg2 := rg.f107 fr
  have st : STF o m len nc ρ (W S) (r19 107) := (rg.2.2.1 S hS).congr om m4 SAME5.rfl' row
  obtain ⟨N0, σ, lo, e⟩ := al
  have pa := p_aloneF rg2.1 so st (lo _ st) a e
  have no : (¬ ALC o len ρ sp (r19 107) ∨ zf_Machine_canMove σ (Int32.ofNat o) = some 0) → zp (zb_M_whole_138 (zb_M_whole_63 N k) N r19 sp (Int32.ofNat o) v4 (Int32.ofNat (4000 + S))) R := fun h => by
    unfold zb_M_whole_138 zb_M_whole_139
    refine kk 0 r19 (Or.inl ⟨?_, rfl⟩) rg2
    rcases pa with ⟨_, p1, c, p2, p3⟩ | ⟨p, _⟩
    · rcases h with h | h
      · exact absurd p1 h
      · rw [h] at p2
        injection p2 with p2
        exact absurd p2.symm p3
    · exact p
  have st' := st
  obtain ⟨f, f1, s0, _⟩ := st'
  refine zp_ite (fun n38 => no (Or.inl fun q => n38 q.1)) fun y38 => zp_bind (zp_mono (m_stateOf o4) fun r49 e49 => ?_)
  subst e49
  refine zp_ite (fun n1 => no (Or.inl fun q => n1 q.2.1)) fun y1 => ?_
  have h1 := Classical.not_not.mp y1
  obtain ⟨z, zL, es⟩ := s0.running om h1
  have l24 := (pc.2.1 o om).1
  unfold zf_M_at
  rw [zo_at o4]
  refine zp_bind (zp_some ?_)
  rw [zo_n (m := 14 + 6 * o) (by omega), es, (z24 o4 (by omega)).2.1, rg2.2.2.2.1.2.2.1, s97 o z om zL]
  refine zp_chk fun _ => zp_chk fun _ => zp_ite (fun n12 => no (Or.inl fun q => ?_)) fun y12 => ?_
  · obtain ⟨_, _, z', zL', es', e12⟩ := q
    have := zo_inj (k := z') (j := z) (by omega) (by omega) (es'.symm.trans es)
    rw [this] at e12
    exact n12 e12
  · have A : ALC o len ρ sp (r19 107) := ⟨Classical.not_not.mp y38, h1, z, zL, es, Classical.not_not.mp y12⟩
    have p2 := p_canF rg2.1 st (lo _ st) (fun _ _ => rfl) om
    rcases pa with ⟨pa, _, c, pc', nz⟩ | ⟨pa, h⟩
    · refine zp_bind (zp_mono (p2 c pc') fun b hb => zp_ite (fun z => absurd (hb.1.trans z) nz) fun _ => ?_)
      unfold zb_M_whole_139
      exact kk 1 r19 (Or.inr ⟨pa, rfl⟩) rg2
    · have h := h.resolve_left fun q => q A
      exact zp_bind (zp_mono (p2 0 h) fun b hb => zp_ite (fun _ => no (Or.inr h)) fun q => absurd hb.1.symm q)
theorem m_overF {k63 : zS → Int32 → Int32 → Int32 → Int32 → Option (Int32 × zS)} {N o m c0 S T : Nat} {sp v4 v6 v7 : Int32} {len : Nat → Nat} {nc : Nat → Nat → Nat} {ρ μ0 μ : zS} {W : Nat → Nat → Int32} {L : Nat → Int32} {a : Int32} {w' : Nat → Int32} (so : SPO o m len ρ sp) (s97 : ∀ t z, t < m → z < len t → μ0 97 (24 * t + z) = ρ 12 (24 * t + z)) (tm : T < m) (al : (a = -1 ∧ v6 = 0) ∨ (a = Int32.ofNat o ∧ v6 = 1)) (may : MAY a T) (can : ∃ a, ¬ a = 0 ∧ CANF o m len nc ρ (W S) T a) (mv : MOVF o sp m len nc ρ (W S) T w') (new : ∀ j, j < 4000 → ¬ SAME5 (W j) w') (hS : S < 4000) (rg : RGF o m len nc ρ W c0 L S 4000 v4 μ0 μ) : ∀ k, zp (zb_M_whole_147 k63 N k μ sp (Int32.ofNat o) v4 (Int32.ofNat (4000 + S)) v6 v7 (Int32.ofNat T)) (fun r => r.1 = -103) := by
  intro k
  cases k with
  | zero => exact zp_none
  | succ k =>
    have om := so.1
    have pc := rg.1
    have m4 := pc.1.1
    have e17 : μ 82 17 = Int32.ofNat m := pc.1.2.2
    rw [zb_M_whole_147, e17]
    refine zp_ite (fun q => ?_) fun _ => zp_bind (zp_mono (m_load (b := 0) (n := 0) (s := 4000 + S) (by omega)) fun r30 h30 => ?_)
    · have := (zo_le (k := m) (j := T) (by omega) (by omega)).mp q
      omega
    obtain ⟨fr, row⟩ := h30
    have rg2 := rg.f107 fr
    have pc2 := rg2.1
    have st : STF o m len nc ρ (W S) (r30 107) := (rg.2.2.1 S hS).congr om m4 SAME5.rfl' row
    have t4 : T < 4 := by omega
    have o4 : o < 4 := by omega
    obtain ⟨a', na, σ, lo, e⟩ := can
    refine zp_bind (zp_mono (p_canF pc2 st (lo _ st) (fun _ _ => rfl) tm _ e) fun b hb => ?_)
    obtain ⟨e1, e2, e3⟩ := hb
    have cx := e3 (e2.resolve_left na)
    refine zp_ite (fun q => absurd (e1.trans q) na) fun _ => ?_
    obtain ⟨N0, σ0, r0, lo0, e0, same⟩ := mv
    have st' := st
    obtain ⟨f, f1, s0, _⟩ := st'
    obtain ⟨_, z, zL, es⟩ := can_at s0 tm cx
    have l24 : ∀ t, t < m → len t ≤ 24 := fun t ht => (pc2.2.1 t ht).1
    have z24' : z < 24 := Nat.lt_of_lt_of_le zL (l24 T tm)
    have D : zp (zb_M_whole_182 (zb_M_whole_147 k63 N k) N r30 sp (Int32.ofNat o) v4 (Int32.ofNat (4000 + S)) v6 (Int32.ofNat T)) (fun r => r.1 = -103) := by
      unfold zb_M_whole_182 zf_M_at
      rw [zo_at t4]
      refine zp_bind (zp_some ?_)
      rw [zo_n (m := 14 + 6 * T) (by omega), es, (z24 t4 (by omega)).2.1]
      refine zp_chk fun _ => zp_bind (zp_mono (p_moveF (N := N0) (N' := N) pc2 so st (lo0 _ st) tm cx r0 e0) fun r36 h36 => ?_)
      obtain ⟨f36, x38, mk⟩ := h36
      have rg3 := rg2.f107 f36
      have put : ∀ y0 y : Int32, NMK o T ρ sp (r30 107) (r36 107) y → zp (zb_M_whole_284 (zb_M_whole_147 k63 N k) N (zx_up r36 107 38 y0) sp (Int32.ofNat o) v4 (Int32.ofNat (4000 + S)) v6 0 (Int32.ofNat T) y 38) (fun r => r.1 = -103) := fun y0 y hy => by
        unfold zb_M_whole_284
        rw [show (38 : Int32).toNatClampNeg = 38 from rfl]
        have Z1 : ∀ i, i < 40 → i ≠ 38 → (zx_up (zx_up r36 107 38 y0) 107 38 y) 107 i = r36 107 i := fun i _ ne => by rw [zx_up_same, zu_ne ne, zx_up_same, zu_ne ne]
        have Z2 : (zx_up (zx_up r36 107 38 y0) 107 38 y) 107 38 = y := by rw [zx_up_same, zu_eq]
        have Zq : ∀ q, q ≠ 107 → (zx_up (zx_up r36 107 38 y0) 107 38 y) q = r36 q := fun q hq => by rw [zu_other hq, zu_other hq]
        generalize (zx_up (zx_up r36 107 38 y0) 107 38 y) = Z at Z1 Z2 Zq ⊢
        have rgZ := rg3.f107 Zq
        have stZ : STF o m len nc ρ w' (Z 107) := (mk y (Z 107) hy Z1 Z2).congr om m4 same.sy (fun _ _ => rfl)
        refine zp_chk fun _ => zp_bind (zp_mono (m_put (N := N) rgZ.2.1 (stZ.byte rgZ.1)) fun r42 h42 => ?_)
        rcases h42 with ⟨i, i1, i2, _, s⟩ | ⟨_, ⟨nn, _⟩ | ⟨_, e⟩⟩
        · exact absurd (STF.bwd m4 (rgZ.2.2.1 (i - 4000) (by omega)) stZ (by unfold XT; rw [show 4000 + (i - 4000) = i by omega]; exact s)) (new (i - 4000) (by omega))
        · omega
        · rw [e]
          exact zp_ite (fun q => absurd rfl q) fun _ => zp_some rfl
      have st36 : ∀ y0 : Int32, zp (zf_M_stateOf (zx_up r36 107 38 y0) (Int32.ofNat o)) (fun r => r = r36 107 (15 + 6 * o)) := fun y0 => zp_mono (m_stateOf o4) fun r e => by
        rw [zx_up_same, zu_ne (by omega)] at e
        exact e
      have F : ∀ y0 : Int32, ((T ≠ o → y0 = r30 107 38) ∧ (T = o → (ρ 12 (24 * T + z) = sp → y0 = 1) ∧ (¬ ρ 12 (24 * T + z) = sp → y0 = 0))) → zp (zb_M_whole_248 (zb_M_whole_147 k63 N k) N r36 sp (Int32.ofNat o) v4 (Int32.ofNat (4000 + S)) v6 0 (Int32.ofNat T) y0 38) (fun r => r.1 = -103) := fun y0 hy => by
        unfold zb_M_whole_248 zb_M_whole_273
        rw [show (38 : Int32).toNatClampNeg = 38 from rfl]
        refine zp_chk fun _ => zp_bind (zp_mono (st36 y0) fun r39 e39 => zp_ite (fun y4 => put y0 0 ⟨fun _ => rfl, fun n => absurd (Or.inl (e39.symm.trans y4)) n⟩) fun n4' => zp_bind (zp_mono (st36 y0) fun r44 e44 => zp_ite (fun n5 => ?_) fun y5 => put y0 0 ⟨fun _ => rfl, fun n => absurd (Or.inr (e44.symm.trans (Classical.not_not.mp y5))) n⟩))
        rw [show (zx_up r36 107 38 y0) 107 38 = y0 by rw [zx_up_same, zu_eq]]
        refine put y0 y0 ⟨fun g => ?_, fun _ => ⟨hy.1, fun to z' hz' es' => ?_⟩⟩
        · rcases g with g | g
          · exact absurd (e39.trans g) n4'
          · exact absurd (e44.trans g) n5
        · have : z' = z := zo_inj (by omega) (by omega) (es'.symm.trans es)
          rw [this]
          exact hy.2 to
      have e97 : r36 97 (24 * T + z) = ρ 12 (24 * T + z) := by rw [rg3.2.2.2.1.2.2.1]; exact s97 T z tm zL
      rw [e97]
      refine zp_ite (fun ne => F _ ⟨fun _ => x38, fun to => absurd (by rw [to]) ne⟩) fun eq => zp_chk fun _ => ?_
      have to : T = o := zo_inj (by omega) (by omega) (Classical.not_not.mp eq)
      exact zp_ite (fun n12 => F 0 ⟨fun n => absurd to n, fun _ => ⟨fun y => absurd y n12, fun _ => rfl⟩⟩) fun y12 => F 1 ⟨fun n => absurd to n, fun _ => ⟨fun _ => rfl, fun n => absurd (Classical.not_not.mp y12) n⟩⟩
    refine zp_ite (fun _ => D) fun nz => zp_ite (fun ne => ?_) fun _ => D
    have al := al.resolve_left fun q => nz q.2
    rcases may with y | y
    · exact absurd (al.1.symm.trans y) (zo_ne (by omega))
    · exact absurd (al.1.symm.trans y).symm ne
theorem m_doneF {N o m c0 nF : Nat} {sp : Int32} {len : Nat → Nat} {nc : Nat → Nat → Nat} {ρ μ0 : zS} {W : Nat → Nat → Int32} {A : Nat → Int32} {M : Nat → Nat → Nat} {V : Nat → Nat → Int32} {R : Int32 × zS → Prop} (so : SPO o m len ρ sp) (s97 : ∀ t z, t < m → z < len t → μ0 97 (24 * t + z) = ρ 12 (24 * t + z)) (nwr : NWR m len c0 ρ) (n4 : nF ≤ 4000) (dis : ∀ i j, i < j → j < nF → ¬ SAME5 (W i) (W j)) (mF : M nF 0 = nF) (mS : ∀ s, s < nF → M (s + 1) 0 = M s m) (mB : ∀ s, s < nF → s < M s 0) (ha : ∀ s, s < nF → ALF o sp m len nc ρ (W s) (A s)) (suc : ∀ s t, s < nF → t < m → M s (t + 1) ≤ nF ∧ SUF o sp m len nc ρ W A M V s t) (v0 : ∀ s, s < nF → V s 0 = 1) (m0n : M 0 0 ≤ nF) (fin : ∀ (v4 : Int32) (μ : zS), RGF o m len nc ρ W c0 (fun s => V s m) nF nF v4 μ0 μ → zp (if ¬ v4 = (μ 82 60) then zb_M_whole_391 N μ v4 0 else zb_M_whole_391 N μ v4 1) R) : ∀ (k S : Nat) (μ : zS) (v4 : Int32), S ≤ nF → RGF o m len nc ρ W c0 (fun s => V s m) S (M S 0) v4 μ0 μ → zp (zb_M_whole_63 N k μ sp (Int32.ofNat o) v4 (Int32.ofNat (4000 + S))) R := by
  have mp : 0 < m := Nat.lt_of_le_of_lt (Nat.zero_le _) so.1
  have le : ∀ S, S ≤ nF → M S 0 ≤ nF := fun S hS => by
    cases S with
    | zero => exact m0n
    | succ S =>
      rw [mS S (by omega)]
      have q := (suc S (m - 1) (by omega) (by omega)).1
      rw [show m - 1 + 1 = m by omega] at q
      exact q
  intro k
  induction k with
  | zero => intro _ _ _ _ _; exact zp_none
  | succ k ih =>
    intro S μ v4 hS rg
    have lS := le S hS
    rw [zb_M_whole_63, rg.2.1.2.2.1]
    have e4 : (4000 : Int32) + Int32.ofNat (M S 0) = Int32.ofNat (4000 + M S 0) := zo_plus (i := 4000) rfl (by omega)
    rw [e4]
    refine zp_ite (fun q => ?_) fun q => ?_
    · have q := (zo_le (k := 4000 + M S 0) (j := 4000 + S) (by omega) (by omega)).mp q
      have c : S = nF := by
        by_cases c : S = nF
        · exact c
        · have := mB S (by omega)
          omega
      subst c
      rw [mF] at rg
      exact fin v4 μ rg
    · have lt : S < nF := by
        by_cases c : S < nF
        · exact c
        · have e : S = nF := by omega
          rw [e, mF] at q
          exact absurd (Int32.le_refl _) q
      refine p_alone so s97 (mB S lt) rg (ha S lt) fun v6 μ' al rg' => ?_
      refine m_thrF (Te := m) (L := (fun s => V s m)) so s97 nwr (Nat.le_refl _) n4 dis al (fun t ht => suc S t lt ht) (fun k' ν rgn hSn => ?_) N 0 μ' 1 (v0 S lt).symm (Nat.zero_le _) rg' (mB S lt) lS
      cases k' with
      | zero => exact zp_none
      | succ k' =>
        obtain ⟨o0, o1⟩ := m_outF (k63 := zb_M_whole_63 N k) (N := N) (sp := sp) (L := fun s => V s m) hSn (vvF S (fun t ht => (suc S t lt ht).2) (v0 S lt)) rgn (fun v4' μ'' g => ih (S + 1) μ'' v4' (by omega) (by rw [mS S lt]; exact g))
        rw [zb_M_whole_147, rgn.1.1.2.2]
        refine zp_ite (fun _ => zp_ite (fun z => o0 z) fun nz => o1 ?_) fun q => absurd (Int32.le_refl _) q
        exact (vvF S (fun t ht => (suc S t lt ht).2) (v0 S lt)).resolve_left nz
theorem m_manyF {N o m c0 Sx Tx : Nat} {sp : Int32} {len : Nat → Nat} {nc : Nat → Nat → Nat} {ρ μ0 : zS} {W : Nat → Nat → Int32} {A : Nat → Int32} {M : Nat → Nat → Nat} {V : Nat → Nat → Int32} {w' : Nat → Int32} (so : SPO o m len ρ sp) (s97 : ∀ t z, t < m → z < len t → μ0 97 (24 * t + z) = ρ 12 (24 * t + z)) (nwr : NWR m len c0 ρ) (dis : ∀ i j, i < j → j < 4000 → ¬ SAME5 (W i) (W j)) (Tm : Tx < m) (mT : M Sx Tx = 4000) (mS : ∀ s, s < Sx → M (s + 1) 0 = M s m) (mB : ∀ s, s ≤ Sx → s < M s 0) (ha : ∀ s, s ≤ Sx → ALF o sp m len nc ρ (W s) (A s)) (suc : ∀ s t, (s < Sx ∧ t < m) ∨ (s = Sx ∧ t < Tx) → M s (t + 1) ≤ 4000 ∧ SUF o sp m len nc ρ W A M V s t) (v0 : ∀ s, s ≤ Sx → V s 0 = 1) (m0n : M 0 0 ≤ 4000) (may : MAY (A Sx) Tx) (can : ∃ a, ¬ a = 0 ∧ CANF o m len nc ρ (W Sx) Tx a) (mv : MOVF o sp m len nc ρ (W Sx) Tx w') (new : ∀ j, j < 4000 → ¬ SAME5 (W j) w') : ∀ (k S : Nat) (μ : zS) (v4 : Int32), S ≤ Sx → RGF o m len nc ρ W c0 (fun s => V s m) S (M S 0) v4 μ0 μ → zp (zb_M_whole_63 N k μ sp (Int32.ofNat o) v4 (Int32.ofNat (4000 + S))) (fun r => r.1 = -103) := by
  have mp : 0 < m := Nat.lt_of_le_of_lt (Nat.zero_le _) so.1
  have le : ∀ S, S ≤ Sx → M S 0 ≤ 4000 := fun S hS => by
    cases S with
    | zero => exact m0n
    | succ S =>
      rw [mS S (by omega)]
      have q := (suc S (m - 1) (Or.inl ⟨by omega, by omega⟩)).1
      rw [show m - 1 + 1 = m by omega] at q
      exact q
  intro k
  induction k with
  | zero => intro _ _ _ _ _; exact zp_none
  | succ k ih =>
    intro S μ v4 hS rg
    have lS := le S hS
    have b := mB S hS
    rw [zb_M_whole_63, rg.2.1.2.2.1]
    have e4 : (4000 : Int32) + Int32.ofNat (M S 0) = Int32.ofNat (4000 + M S 0) := zo_plus (i := 4000) rfl (by omega)
    rw [e4]
    refine zp_ite (fun q => ?_) fun q => ?_
    · have q := (zo_le (k := 4000 + M S 0) (j := 4000 + S) (by omega) (by omega)).mp q
      omega
    · refine p_alone so s97 b rg (ha S hS) fun v6 μ' al rg' => ?_
      by_cases c : S = Sx
      · subst c
        refine m_thrF (Te := Tx) (L := (fun s => V s m)) so s97 nwr (by omega) (Nat.le_refl _) dis al (fun t ht => suc S t (Or.inr ⟨rfl, ht⟩)) (fun k' ν rgn hSn => ?_) N 0 μ' 1 (v0 S hS).symm (Nat.zero_le _) rg' b lS
        rw [mT] at rgn hSn
        exact m_overF so s97 Tm al may can mv new hSn rgn k'
      · refine m_thrF (Te := m) (L := (fun s => V s m)) so s97 nwr (Nat.le_refl _) (Nat.le_refl _) dis al (fun t ht => suc S t (Or.inl ⟨by omega, ht⟩)) (fun k' ν rgn hSn => ?_) N 0 μ' 1 (v0 S hS).symm (Nat.zero_le _) rg' b lS
        cases k' with
        | zero => exact zp_none
        | succ k' =>
          have vv := vvF S (fun t ht => (suc S t (Or.inl ⟨by omega, ht⟩)).2) (v0 S hS)
          obtain ⟨o0, o1⟩ := m_outF (k63 := zb_M_whole_63 N k) (N := N) (sp := sp) (L := fun s => V s m) hSn vv rgn (fun v4' μ'' g => ih (S + 1) μ'' v4' (by omega) (by rw [mS S (by omega)]; exact g))
          rw [zb_M_whole_147, rgn.1.1.2.2]
          exact zp_ite (fun _ => zp_ite (fun z => o0 z) fun nz => o1 (vv.resolve_left nz)) fun q => absurd (Int32.le_refl _) q
