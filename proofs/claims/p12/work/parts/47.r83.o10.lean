-- both answer alike
set_option maxRecDepth 2000
def pOf (m : Nat) (μ : zS) (k : Nat) (s : Nat) : Prop := if k = 1 then μ 113 s = 2 else if k = 2 then μ 113 s = 1 else ∃ t, t < m ∧ row40 μ s (15 + 6 * t) = 5
theorem pOf_1 {m s : Nat} {μ : zS} : pOf m μ 1 s = (μ 113 s = 2) := by
  unfold pOf
  rw [if_pos rfl]
theorem pOf_2 {m s : Nat} {μ : zS} : pOf m μ 2 s = (μ 113 s = 1) := by
  unfold pOf
  rw [if_neg (by decide), if_pos rfl]
theorem pOf_4 {m s : Nat} {μ : zS} : pOf m μ 4 s = ∃ t, t < m ∧ row40 μ s (15 + 6 * t) = 5 := by
  unfold pOf
  rw [if_neg (by decide), if_neg (by decide)]
theorem m_isOf {N m k s : Nat} {μ : zS} (m4 : m ≤ 4) (e17 : μ 82 17 = Int32.ofNat m) (hk : k = 1 ∨ k = 2 ∨ k = 4) (hs : s < 4000) : zp (zf_M_isOf N μ (Int32.ofNat s) (Int32.ofNat k)) (fun r => ANQ (pOf m μ k s) r) := by
  have ix : ∀ t : Nat, t < 4 → ((40 * Int32.ofNat s) + Int32.ofNat (14 + 6 * t)) + 1 = Int32.ofNat (40 * s + (15 + 6 * t)) := fun t ht => by
    rw [zo_mul40 (s := s) (i := 14 + 6 * t) (by omega) (by omega)]
    show Int32.ofNat (40 * s + (14 + 6 * t)) + Int32.ofNat 1 = _
    rw [← Int32.ofNat_add, show 40 * s + (14 + 6 * t) + 1 = 40 * s + (15 + 6 * t) by omega]
  have lp : ∀ (n t : Nat) (v : Int32), t ≤ m → ANQ (∃ u, u < t ∧ row40 μ s (15 + 6 * u) = 5) v → zp (zb_M_isOf_47 N n μ (Int32.ofNat s) v (Int32.ofNat t)) (fun r => ANQ (∃ u, u < m ∧ row40 μ s (15 + 6 * u) = 5) r) := by
    intro n
    induction n with
    | zero => intro _ _ _ _; exact zp_none
    | succ n ih =>
      intro t v ht h
      rw [zb_M_isOf_47, e17]
      unfold zb_M_isOf_82 zb_M_isOf_87 zf_M_at
      refine zp_ite (fun q => zp_chk fun _ => zp_some ?_) fun q => ?_
      · have tm : t = m := by
          have := (zo_le (k := m) (j := t) (by omega) (by omega)).mp q
          omega
        rw [← tm]
        exact h
      · have lt : t < m := by
          by_cases c : t < m
          · exact c
          · exact absurd ((zo_le (k := m) (j := t) (by omega) (by omega)).mpr (by omega)) q
        rw [zo_1 (m := t) (by omega), zo_at (t := t) (by omega)]
        refine zp_ite (fun nz => ih (t + 1) 1 (by omega) (Or.inr ⟨rfl, ?_⟩)) fun z => zp_bind (zp_some ?_)
        · rcases h with ⟨e, _⟩ | ⟨_, u, hu, e⟩
          · exact absurd e nz
          · exact ⟨u, by omega, e⟩
        · rw [ix t (by omega), zo_nb (m := 40 * s + (15 + 6 * t)) (by omega)]
          refine zp_chk fun _ => zp_ite (fun ne => ih (t + 1) 0 (by omega) (Or.inl ⟨rfl, ?_⟩)) fun y => ih (t + 1) 1 (by omega) (Or.inr ⟨rfl, t, by omega, Classical.not_not.mp y⟩)
          rintro ⟨u, hu, e⟩
          rcases h with ⟨_, no⟩ | ⟨e', _⟩
          · by_cases c : u = t
            · rw [c] at e; exact ne e
            · exact no ⟨u, by omega, e⟩
          · exact z (fun z' => absurd (e'.symm.trans z') (by decide))
  unfold zf_M_isOf
  rw [zo_n (m := s) (by omega)]
  rcases hk with e | e | e
  · subst e
    rw [pOf_1]
    refine zp_ite (fun q => absurd rfl q) fun _ => zp_chk fun _ => ?_
    exact zp_ite (fun ne => zp_some (Or.inl ⟨rfl, ne⟩)) fun y => zp_some (Or.inr ⟨rfl, Classical.not_not.mp y⟩)
  · subst e
    rw [pOf_2]
    refine zp_ite (fun _ => zp_ite (fun q => absurd rfl q) fun _ => zp_chk fun _ => ?_) fun q => absurd q (by decide)
    exact zp_ite (fun ne => zp_some (Or.inl ⟨rfl, ne⟩)) fun y => zp_some (Or.inr ⟨rfl, Classical.not_not.mp y⟩)
  · subst e
    rw [pOf_4]
    refine zp_ite (fun _ => zp_ite (fun _ => ?_) fun q => absurd q (by decide)) fun q => absurd q (by decide)
    exact lp N 0 0 (by omega) (Or.inl ⟨rfl, fun ⟨u, hu, _⟩ => absurd hu (Nat.not_lt_zero _)⟩)
theorem m_countOf {N m k n : Nat} {μ : zS} (m4 : m ≤ 4) (e17 : μ 82 17 = Int32.ofNat m) (hk : k = 1 ∨ k = 2 ∨ k = 4) (n4 : n ≤ 4000) (h54 : μ 82 54 = Int32.ofNat n) : zp (zf_M_countOf N μ (Int32.ofNat k)) (fun r => r = Int32.ofNat (lst (pOf m μ k) 0 n).length) := by
  have go : ∀ (i s : Nat) (v : Int32), s ≤ n → v = Int32.ofNat (lst (pOf m μ k) 0 s).length → zp (zb_M_countOf_4 N i μ (Int32.ofNat k) v (Int32.ofNat s)) (fun r => r = Int32.ofNat (lst (pOf m μ k) 0 n).length) := by
    intro i
    induction i with
    | zero => intro _ _ _ _; exact zp_none
    | succ i ih =>
      intro s v hs hv
      rw [zb_M_countOf_4, h54]
      unfold zb_M_countOf_27
      have ln := lst_len (p := pOf m μ k) s 0
      refine zp_ite (fun q => zp_some ?_) fun q => ?_
      · have : n ≤ s := (zo_le (k := n) (j := s) (by omega) (by omega)).mp q
        rw [show s = n by omega] at hv
        exact hv
      · have lt : s < n := by
          by_cases c : s < n
          · exact c
          · exact absurd ((zo_le (k := n) (j := s) (by omega) (by omega)).mpr (by omega)) q
        rw [zo_1 (m := s) (by omega)]
        refine zp_bind (zp_mono (m_isOf m4 e17 hk (by omega)) fun r2 h2 => ?_)
        rcases h2 with ⟨e, no⟩ | ⟨e, yes⟩
        · refine zp_ite (fun _ => ih (s + 1) _ (by omega) ?_) fun q => absurd e q
          rw [lst_no no, hv, Int32.add_zero]
        · refine zp_ite (fun q => absurd (e.symm.trans q) (by decide)) fun _ => ih (s + 1) _ (by omega) ?_
          rw [lst_y yes, hv, zo_1 (by omega), List.length_append]
          rfl
  unfold zf_M_countOf
  exact go N 0 0 (by omega) (by rw [lst]; rfl)
theorem m_shown {N m k n : Nat} {μ : zS} {x : Int32} (m4 : m ≤ 4) (e17 : μ 82 17 = Int32.ofNat m) (hk : k = 1 ∨ k = 2 ∨ k = 4) (n4 : n ≤ 4000) (h54 : μ 82 54 = Int32.ofNat n) : zp (zb_M_stateShown_75 N μ (Int32.ofNat k) x) (fun r => GETL (lst (pOf m μ k) 0 n) x r) := by
  have go : ∀ (i s : Nat) (v : Int32), s ≤ n → (x < 0 ∨ CNT x v (lst (pOf m μ k) 0 s).length) → zp (zb_M_stateShown_80 N i μ (Int32.ofNat k) x v (Int32.ofNat s)) (fun r => GETL (lst (pOf m μ k) 0 n) x r) := by
    intro i
    induction i with
    | zero => intro _ _ _ _; exact zp_none
    | succ i ih =>
      intro s v hs h
      rw [zb_M_stateShown_80, h54]
      unfold zb_M_stateShown_113
      have ln := lst_len (p := pOf m μ k) s 0
      have neg : x < 0 → ∀ j, j < (lst (pOf m μ k) 0 n).length → ¬ x = Int32.ofNat j := fun q j hj e => by
        have l2 := lst_len (p := pOf m μ k) n 0
        rw [e] at q
        have := (zo_lt (k := j) (j := 0) (by omega) (by omega)).mp q
        omega
      refine zp_ite (fun q => zp_some (Or.inr ⟨?_, rfl⟩)) fun q => zp_ite (fun xn => zp_some (Or.inr ⟨neg xn, rfl⟩)) fun xn => ?_
      · have pe : s = n := by
          have := (zo_le (k := n) (j := s) (by omega) (by omega)).mp q
          omega
        subst pe
        rcases h with h | h
        · exact neg h
        · exact fun j hj => h.ne hj (by omega)
      · have h := h.resolve_left xn
        have lt : s < n := by
          by_cases c : s < n
          · exact c
          · exact absurd ((zo_le (k := n) (j := s) (by omega) (by omega)).mpr (by omega)) q
        rw [zo_1 (m := s) (by omega)]
        refine zp_bind (zp_mono (m_isOf m4 e17 hk (by omega)) fun r6 h6 => ?_)
        rcases h6 with ⟨e, no⟩ | ⟨e, yes⟩
        · refine zp_ite (fun _ => ih (s + 1) v (by omega) (Or.inr ?_)) fun q => absurd e q
          rw [lst_no no]; exact h
        · refine zp_ite (fun q => absurd (e.symm.trans q) (by decide)) fun _ => zp_ite (fun nz => ih (s + 1) _ (by omega) (Or.inr ?_)) fun z => zp_some (Or.inl ⟨_, s, lst_get yes lt, h.hit (by omega) (Classical.not_not.mp z), rfl⟩)
          rw [lst_y yes, List.length_append]
          exact h.dec nz
  unfold zb_M_stateShown_75
  by_cases c : x < 0
  · exact go N 0 x (by omega) (Or.inl c)
  · refine go N 0 x (by omega) (Or.inr ⟨Int32.not_lt.mp c, Int32.not_lt.mp c, ?_⟩)
    rw [lst]
    show x.toInt = x.toInt - ((0 : Nat) : Int)
    omega
theorem m_races {N : Nat} {μ : zS} : zp (zf_M_races N μ) (fun r => r = Int32.ofNat (lst (pPos (μ 114)) 0 9216).length) := by
  have go : ∀ (i p : Nat) (v : Int32), p ≤ 9216 → v = Int32.ofNat (lst (pPos (μ 114)) 0 p).length → zp (zb_M_races_4 N i μ v (Int32.ofNat p)) (fun r => r = Int32.ofNat (lst (pPos (μ 114)) 0 9216).length) := by
    intro i
    induction i with
    | zero => intro _ _ _ _; exact zp_none
    | succ i ih =>
      intro p v hp hv
      rw [zb_M_races_4]
      unfold zb_M_races_26
      have ln := lst_len (p := pPos (μ 114)) p 0
      refine zp_ite (fun q => zp_some ?_) fun q => ?_
      · have : 9216 ≤ p := (zo_le (k := 9216) (j := p) (by omega) (by omega)).mp q
        rw [show p = 9216 by omega] at hv
        exact hv
      · have lt : p < 9216 := by
          by_cases c : p < 9216
          · exact c
          · exact absurd ((zo_le (k := 9216) (j := p) (by omega) (by omega)).mpr (by omega)) q
        rw [zo_n (m := p) (by omega), zo_1 (m := p) (by omega)]
        refine zp_chk fun _ => zp_ite (fun le => ih (p + 1) _ (by omega) ?_) fun gt => ih (p + 1) _ (by omega) ?_
        · rw [lst_no fun k => k.2 le, hv, Int32.add_zero]
        · rw [lst_y (p := pPos (μ 114)) ⟨lt, gt⟩, hv, zo_1 (by omega), List.length_append]
          rfl
  unfold zf_M_races
  exact go N 0 0 (by omega) (by rw [lst]; rfl)
theorem KND.pend {m : Nat} {v k : Int32} {x : Nat → Int32} (h : KND m v x k) : (k = 1 ↔ (v = 1 ∧ ∀ t, t < m → GON (x (15 + 6 * t)))) ∧ (k = 2 ↔ (v = 1 ∧ ¬ ∀ t, t < m → GON (x (15 + 6 * t)))) := by
  rcases h with ⟨a, b⟩ | ⟨a, ⟨b, c⟩ | ⟨b, t, ht, c⟩⟩
  · rw [a, b]
    exact ⟨⟨fun k => absurd k (by decide), fun k => absurd k.1 (by decide)⟩, ⟨fun k => absurd k (by decide), fun k => absurd k.1 (by decide)⟩⟩
  · rw [a, b]
    exact ⟨⟨fun _ => ⟨rfl, c⟩, fun _ => rfl⟩, ⟨fun k => absurd k (by decide), fun k => absurd c k.2⟩⟩
  · rw [a, b]
    exact ⟨⟨fun k => absurd k (by decide), fun k => absurd (k.2 t ht) c⟩, ⟨fun _ => ⟨rfl, fun k => c (k t ht)⟩, fun _ => rfl⟩⟩
