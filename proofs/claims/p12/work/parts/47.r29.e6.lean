-- both answer alike
set_option maxRecDepth 2000
theorem y_expect {σ : zS} {τ : zT} {x : Int32} : zp (zf_Reader_expect σ τ x) (fun r => (r.1 = 0 ∧ ¬ r.2.1 17 6 = 0) ∨ (r.1 = 1 ∧ σ 25 7 = x ∧ ∀ q, q ≠ 25 → r.2.1 q = σ q)) := by
  unfold zf_Reader_expect
  exact zp_ite (fun k => zp_bind (zp_mono y_adv fun r2 h2 => zp_some (Or.inr ⟨rfl, k, h2⟩))) fun _ => zp_bind (zp_mono (c_fail (by decide)) fun r h => zp_chk fun _ => zp_some (Or.inl ⟨h.1, h.2.1⟩))
theorem y_open1 {σ : zS} {τ : zT} {s m : Int32} {d : Nat} (h6 : σ 29 6 = Int32.ofNat d) (d8 : d ≤ 8) : zp (zf_Reader_openBlock σ τ s m) (fun r => r.1 17 6 = 0 → d < 8 ∧ ∃ r1, (∀ q, q ≠ 25 → r1 q = σ q) ∧ ENT s m d r1 r.1) := by
  have A : (σ 25 7 = 123 → d < 8) → zp (zb_Reader_openBlock_33 σ τ s m) (fun r => r.1 17 6 = 0 → d < 8 ∧ ∃ r1, (∀ q, q ≠ 25 → r1 q = σ q) ∧ ENT s m d r1 r.1) := fun hlt => by
    unfold zb_Reader_openBlock_33
    refine zp_bind (zp_mono y_expect fun r2 h2 => ?_)
    rcases h2 with ⟨e, n⟩ | ⟨e, k, f⟩
    · exact zp_ite (fun _ => zp_some fun w => absurd w n) fun q => absurd e q
    · exact zp_ite (fun q => absurd (q.symm.trans e) (by decide)) fun _ => zp_bind (zp_mono (p_X_enter (d := d) (by rw [f 29 (by decide)]; exact h6) (hlt k)) fun r4 h4 => zp_some fun _ => ⟨hlt k, r2.2.1, f, h4⟩)
  unfold zf_Reader_openBlock
  refine zp_ite (fun n => A fun k => absurd k n) fun _ => zp_ite (fun l => A fun _ => ?_) fun _ => zp_bind (zp_mono (c_fail (by decide)) fun r h => zp_some fun w => absurd w h.2.1)
  rw [h6] at l
  exact (zo_lt (k := d) (j := 8) (by omega) (by omega)).mp l
theorem y_open17 {σ : zS} {τ : zT} {s m : Int32} : zp (zf_Reader_openBlock σ τ s m) (fun r => r.1 17 6 = 0 → σ 17 6 = 0 ∧ r.1 18 = σ 18 ∧ r.1 20 = σ 20 ∧ r.1 21 = σ 21) := by
  have A : zp (zb_Reader_openBlock_33 σ τ s m) (fun r => r.1 17 6 = 0 → σ 17 6 = 0 ∧ r.1 18 = σ 18 ∧ r.1 20 = σ 20 ∧ r.1 21 = σ 21) := by
    unfold zb_Reader_openBlock_33
    refine zp_bind (zp_mono y_expect fun r2 h2 => ?_)
    rcases h2 with ⟨e, n⟩ | ⟨e, k, f⟩
    · exact zp_ite (fun _ => zp_some fun w => absurd w n) fun q => absurd e q
    · refine zp_ite (fun q => absurd (q.symm.trans e) (by decide)) fun _ => zp_bind (zp_mono (wg_f_Weaver_enter (σ0 := r2.2.1) ⟨rfl, rfl, rfl, rfl⟩) fun r4 h4 => zp_some fun w => ?_)
      have e17 : r4 17 = σ 17 := h4.1.trans (f 17 (by decide))
      exact ⟨(congrFun e17 6).symm.trans w, h4.2.1.trans (f 18 (by decide)), h4.2.2.1.trans (f 20 (by decide)), h4.2.2.2.trans (f 21 (by decide))⟩
  unfold zf_Reader_openBlock
  exact zp_ite (fun _ => A) fun _ => zp_ite (fun _ => A) fun _ => zp_bind (zp_mono (c_fail (by decide)) fun r h => zp_some fun w => absurd w h.2.1)
def NSL (σ : zS) : Prop := σ 17 6 = 0 → NML σ ∧ ∃ t L d nc nb, 0 < d ∧ NSP t L d σ nc nb ∧ (σ 29 7 = -1 ∨ ∃ s, s < L ∧ s < 24 ∧ σ 29 7 = Int32.ofNat s ∧ EQ4 (nc (24 * t + s)) (nb d))
theorem NSL.a {σ0 σ : zS} (h : NSL σ) : NSA σ0 σ := fun w => by
  obtain ⟨n, t, L, d, nc, nb, hd, p, _⟩ := h w
  exact ⟨n, t, L, d, nc, nb, hd, p⟩
theorem NSL.of {σ r : zS} (h : NSL σ) (e : ∀ q, q = 5 ∨ q = 7 ∨ q = 8 ∨ q = 9 ∨ q = 10 ∨ q = 11 ∨ q = 20 ∨ q = 21 ∨ q = 30 ∨ q = 31 ∨ q = 32 ∨ q = 33 ∨ q = 34 → r q = σ q) (e4 : r 4 2 = σ 4 2) (e17 : r 17 6 = σ 17 6) (e18 : r 18 3 = σ 18 3) (f : ∀ i, i ≠ 12 → r 29 i = σ 29 i) : NSL r := fun w => by
  obtain ⟨n, t, L, d, nc, nb, hd, p, l⟩ := h (e17.symm.trans w)
  refine ⟨n.of e18 (e 20 (by decide)) (e 21 (by decide)), t, L, d, nc, nb, hd, p.of (fun q hq => e q (by omega)) e4 f, ?_⟩
  rw [f 7 (by decide)]
  exact l
theorem y_emitL {σ : zS} {N : Nat} {x1 x2 : Int32} {σ0 : zS} (hs : NSA σ0 σ) (hk : ¬ x1 = 3 ∧ ¬ x1 = 4) : zp (zf_Weaver_emit N σ x1 x2) (fun r => NSL r) := by
  by_cases w : σ 17 6 = 0
  · obtain ⟨n, t, L, d, nc, nb, hd, p⟩ := hs w
    refine zp_mono (zp_and (wg_f_Weaver_emit (σ0 := σ) ⟨rfl, rfl, rfl, rfl⟩) (p.emit (k := x1) (x := x2) fun w => absurd w hk.2)) fun r ⟨f, L', nc', q, l, _⟩ _ => ⟨n.of (congrFun f.2.1 3) f.2.2.1 f.2.2.2, t, L', d, nc', nb, hd, q.p (OUTN.id hk), l⟩
  · exact zp_mono (wg_f_Weaver_emit (σ0 := σ) ⟨rfl, rfl, rfl, rfl⟩) fun r f w' => absurd ((congrFun f.1 6).symm.trans w') w
theorem wq_f_Weaver_emit {σ0 : zS} {N : Nat} {σ : zS} {x1 x2 : Int32} (hs : NSA σ0 σ) (hk : ¬ x1 = 3 ∧ ¬ x1 = 4 := by first | assumption | decide) : zp (zf_Weaver_emit N σ x1 x2) (fun r => NSA σ0 r) := zp_mono (y_emitL hs hk) fun r h => h.a
theorem y_openN {σ0 σ : zS} {τ : zT} {s m : Int32} (h : σ 17 6 = 0 → NML σ ∧ ∃ t L d nc nb, 0 < d ∧ NSP t L d σ nc nb ∧ ((s = 3 ∨ (¬ s = 0 ∧ ¬ s = 1 ∧ ¬ s = 2 ∧ ¬ s = 3 ∧ ¬ s = 4)) → (m = -1 ∨ ∃ z, z < L ∧ z < 24 ∧ m = Int32.ofNat z ∧ EQ4 (nc (24 * t + z)) (nb d)))) (s1 : ¬ s = 1) (s0 : ¬ s = 0) : zp (zf_Reader_openBlock σ τ s m) (fun r => NSA σ0 r.1) := by
  by_cases w : σ 17 6 = 0
  · obtain ⟨n, t, L, d, nc, nb, hd, p, hm⟩ := h w
    refine zp_mono (zp_and y_open17 (y_open1 p.2.1.2.2 p.1.2.2)) fun r ⟨f, g⟩ w' => ?_
    obtain ⟨_, f18, f20, f21⟩ := f w'
    obtain ⟨d8, r1, e, en⟩ := g w'
    have p1 : NSP t L d r1 nc nb := p.of (fun q hq => e q (by omega)) (by rw [e 4 (by decide)]) fun i _ => by rw [e 29 (by decide)]
    exact ⟨n.of (congrFun f18 3) f20 f21, t, L, d + 1, nc, _, by omega, p1.enter d8 en s1 ⟨fun z => absurd z s0, fun z => by omega⟩ hm⟩
  · exact zp_mono y_open17 fun r f w' => absurd (f w').1 w
theorem wq_f_Reader_readSpan {σ0 : zS} {σ : zS} {τ : zT} (hs : NSA σ0 σ) : zp (zf_Reader_readSpan σ τ) (fun r => NSA σ0 r.1) := by
  unfold zf_Reader_readSpan
  refine zp_bind fun r1 _ => zp_ite (fun _ => zp_ite (fun _ => zp_bind (zp_mono y_adv fun r4 h4 => zp_bind (zp_mono (y_openN (σ0 := σ0) (fun w => ?_) (by decide) (by decide)) fun r5 h5 => zp_some h5))) fun _ => zp_bind (zp_mono (c_fail (by decide)) fun r h => zp_some (NSA.bad h.2.1))) fun _ => zp_bind (zp_mono (c_fail (by decide)) fun r h => zp_some (NSA.bad h.2.1))
  have a : NSA σ0 r4.1 := hs.of (fun q hq => h4 q (by omega)) (by rw [h4 4 (by decide)]) (by rw [h4 17 (by decide)]) (by rw [h4 18 (by decide)]) fun i _ => by rw [h4 29 (by decide)]
  obtain ⟨n, t, L, d, nc, nb, hd, p⟩ := a w
  exact ⟨n, t, L, d, nc, nb, hd, p, fun k => absurd k (by decide)⟩
