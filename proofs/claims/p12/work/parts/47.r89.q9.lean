-- both answer alike
set_option maxRecDepth 2000
theorem BTZ.lists {m n : Nat} {len : Nat → Nat} {nc : Nat → Nat → Nat} {ρ σ : zS} {P XQ : Nat → Nat} (μ : zS) (e : μ 113 = σ 113 ∧ μ 108 = σ 108) (hst : ∀ j, j < n → ST m len nc ρ (row5 σ j) (row40 σ j) ∧ KND m (σ 44 j) (row40 σ j) (σ 113 j) ∧ (0 < j → σ 111 j = Int32.ofNat (P j) ∧ σ 112 j = Int32.ofNat (XQ j)) ∧ (σ 44 j = 1 → ∀ t, t < m → NMV ρ (row40 σ j) t)) : lst (pOf m μ 2) 0 n = lst (pEnd m (σ 44) (row40 σ)) 0 n ∧ lst (pOf m μ 1) 0 n = lst (pStk m (σ 44) (row40 σ)) 0 n ∧ lst (pOf m μ 4) 0 n = lst (pFai m (row40 σ)) 0 n := by
  have r : ∀ j, row40 μ j = row40 σ j := fun j => by unfold row40; rw [e.2]
  refine ⟨lst_congr n 0 fun s _ hs => ?_, lst_congr n 0 fun s _ hs => ?_, lst_congr n 0 fun s _ hs => ?_⟩
  · have k := (hst s (by omega)).2.1.pend
    unfold pEnd
    rw [pOf_2, e.1]
    exact k.1
  · have k := (hst s (by omega)).2.1.pend
    unfold pStk
    rw [pOf_1, e.1]
    exact k.2
  · unfold pFai
    rw [pOf_4, r]
theorem p_found9 {N : Nat} {σ : zS} {τ : zT} {x1 : Int32} (ev : EQZ σ τ) : zp (zf_X_found σ x1) (fun r => zp (zf_M_found N σ x1) (fun s => r = s.1)) := by
  rcases ev.2.2 with ⟨a, b⟩ | ⟨l13, a, b, ρ, m, len, nc, n, P, XQ, h1, pc, n4, h6, h54, wy, ⟨fi, hL, pj, c0, c6, o1, o2⟩, hst⟩
  · unfold zf_X_found zf_M_found
    exact zp_ite (fun q => absurd a q) fun _ => zp_some (zp_ite (fun q => absurd b q) fun _ => zp_some rfl)
  have m4 := pc.1.1
  have k15 : ¬ σ 2 15 = 0 := by rw [a]; decide
  have k53 : ¬ σ 82 53 = 0 := by rw [b]; decide
  obtain ⟨⟨gE, gS, gF, gR⟩, rl, _⟩ := fi
  have same := rac_same n4 gR hL
  have u : ∀ q, q ≠ 82 → (zx_up σ 82 0 0) q = σ q := fun q hq => zu_other hq
  have u82 : ∀ i, i ≠ 0 → (zx_up σ 82 0 0) 82 i = σ 82 i := fun i hi => by rw [zx_up_same, zu_ne hi]
  have e17 : (zx_up σ 82 0 0) 82 17 = Int32.ofNat m := (u82 17 (by decide)).trans pc.1.2.2
  have e54 : (zx_up σ 82 0 0) 82 54 = Int32.ofNat n := (u82 54 (by decide)).trans h54
  obtain ⟨l2, l1, l4⟩ := BTZ.lists (zx_up σ 82 0 0) ⟨u 113 (by decide), u 108 (by decide)⟩ hst
  unfold zf_X_found zf_M_found
  refine zp_ite (fun _ => ?_) fun q => absurd k15 q
  refine zp_ite (fun c => zp_some (zp_ite (fun _ => zp_ite (fun _ => zp_bind (zp_mono (m_countOf (k := 2) m4 e17 (by omega) n4 e54) fun r hr => zp_some ?_)) fun q => absurd c q) fun q => absurd k53 q)) fun x0 => ?_
  · rw [hr, l2]; exact gE.1
  refine zp_ite (fun c => zp_some (zp_ite (fun _ => zp_ite (fun q => absurd q x0) fun _ => zp_ite (fun _ => zp_bind (zp_mono (m_countOf (k := 1) m4 e17 (by omega) n4 e54) fun r hr => zp_some ?_)) fun q => absurd c q) fun q => absurd k53 q)) fun x1' => ?_
  · rw [hr, l1]; exact gS.1
  refine zp_ite (fun c => zp_some (zp_ite (fun _ => zp_ite (fun q => absurd q x0) fun _ => zp_ite (fun q => absurd q x1') fun _ => zp_ite (fun _ => zp_bind (zp_mono m_races fun r hr => zp_some ?_)) fun q => absurd c q) fun q => absurd k53 q)) fun x2 => ?_
  · rw [hr, u 114 (by decide), same]; exact rl.1
  refine zp_ite (fun c => zp_some (zp_ite (fun _ => zp_ite (fun q => absurd q x0) fun _ => zp_ite (fun q => absurd q x1') fun _ => zp_ite (fun q => absurd q x2) fun _ => zp_ite (fun _ => zp_some ?_) fun q => absurd c q) fun q => absurd k53 q)) fun x3 => ?_
  · exact o2.1.trans o1.1.symm
  refine zp_ite (fun c => zp_some (zp_ite (fun _ => zp_ite (fun q => absurd q x0) fun _ => zp_ite (fun q => absurd q x1') fun _ => zp_ite (fun q => absurd q x2) fun _ => zp_ite (fun q => absurd q x3) fun _ => zp_ite (fun _ => zp_bind (zp_mono (m_countOf (k := 4) m4 e17 (by omega) n4 e54) fun r hr => zp_some ?_)) fun q => absurd c q) fun q => absurd k53 q)) fun x4 => zp_some (zp_ite (fun _ => zp_ite (fun q => absurd q x0) fun _ => zp_ite (fun q => absurd q x1') fun _ => zp_ite (fun q => absurd q x2) fun _ => zp_ite (fun q => absurd q x3) fun _ => zp_ite (fun q => absurd q x4) fun _ => zp_some rfl) fun q => absurd k53 q)
  · rw [hr, l4]; exact gF.1
