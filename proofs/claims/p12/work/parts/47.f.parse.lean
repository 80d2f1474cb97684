-- every method answers: totality within bounds, by invariants of the two states
set_option maxRecDepth 2000
/-! BLOCKS -/
theorem q_f_M_openBlock0 {N : Nat} (hN : zBig ≤ N) {σ0 σ : zS} {x1 x2 : Int32} {Q : zS → Prop} (h : JB σ0 σ) (hQ1 : ∀ r, JQ σ r → ¬ r 82 9 = 0 → Q r) (hQ2 : ∀ r, JQ σ r → r 82 9 = 0 → ¬ σ 82 46 = 8 → Q (zx_up (zx_up (zx_up (zx_up r 103 (σ 82 46).toNatClampNeg x1) 104 (σ 82 46).toNatClampNeg x2) 106 (σ 82 46).toNatClampNeg (r 82 40)) 82 46 (σ 82 46 + 1))) : zq (zf_M_openBlock N σ x1 x2) Q := by
  unfold zf_M_openBlock
  refine zq_ite (fun c9 => ?_) fun c => hQ1 _ h.q c
  refine zq_bind (q_f_M_isSign fun r2 p2 => ?_)
  refine zq_ite (fun c2 => ?_) fun _ => zq_bind (q_f_M_cannot fun r a b => hQ1 _ (FF.jq h.q a b) b)
  refine zq_ite (fun c8 => ?_) fun _ => zq_bind (q_f_M_fail fun r a b => hQ1 _ (FF.jq h.q a b) b)
  refine zq_bind (q_f_M_next hN h.q fun r5 j5 f5 _ => ?_)
  have e46 : r5 82 46 = σ 82 46 := j5.ff 46 (by omega)
  rw [e46]
  have b10 : 0 ≤ σ 82 46 ∧ σ 82 46 < 10 := ⟨h.dp.1, Int32.lt_of_le_of_lt h.dp.2 (by decide)⟩
  refine zq_chk b10 fun _ => zq_chk b10 fun _ => zq_chk b10 fun _ => ?_
  exact hQ2 r5 j5 ((f5.ff 9 (by decide) (by decide) (by decide) (by decide)).trans c9) c8
theorem z_dep {d : Int32} (h : 0 ≤ d ∧ d ≤ 8) (h8 : ¬ d = 8) : (0 ≤ d + 1 ∧ d + 1 ≤ 8) ∧ (d + 1).toNatClampNeg = d.toNatClampNeg + 1 := by
  have a : (0 ≤ d + 1 ∧ d + 1 ≤ 8) ∧ d < 8 := by grind
  exact ⟨a.1, z_succn h.1 a.2⟩
/-- an open block's words, seen from without -/
def OB (σ r : zS) (x1 x2 : Int32) : Prop :=
  (∀ q, q ≠ 82 → q ≠ 85 → q ≠ 86 → q ≠ 103 → q ≠ 104 → q ≠ 106 → r q = σ q) ∧
  (∀ i, (i < 5 ∨ (11 < i ∧ i ≠ 18 ∧ i ≠ 46)) → r 82 i = σ 82 i)
theorem OB.fr {σ r : zS} {x1 x2 : Int32} (h : OB σ r x1 x2) : ∀ q, q ≠ 82 → q ≠ 85 → q ≠ 86 → q ≠ 103 → q ≠ 104 → q ≠ 106 → r q = σ q := h.1
theorem OB.ff {σ r : zS} {x1 x2 : Int32} (h : OB σ r x1 x2) : ∀ i, (i < 5 ∨ (11 < i ∧ i ≠ 18 ∧ i ≠ 46)) → r 82 i = σ 82 i := h.2
theorem q_f_M_openBlock {N : Nat} (hN : zBig ≤ N) {σ0 σ : zS} {x1 x2 : Int32} {pd : Option Nat} {Q : zS → Prop} (h : JP σ0 σ none pd) (h3 : σ 82 9 = 0 → (x1 = 3 ∨ x1 = 5) → ∃ s : Nat, pd = some s ∧ x2.toInt = (s : Int)) (h4 : x1 ≠ 4) (hp : σ 82 9 = 0 → ¬ (x1 = 3 ∨ x1 = 5) → pd = none) (h1 : σ 82 9 = 0 → x1 = 1 → ∃ s : Nat, s < tS σ ∧ x2.toInt = (s : Int) ∧ 0 ≤ σ 93 (tb σ + s) ∧ σ 93 (tb σ + s) ≤ 3) (hQ : ∀ r, JP σ0 r none none → OB σ r x1 x2 → Q r) : zq (zf_M_openBlock N σ x1 x2) Q := by
  refine q_f_M_openBlock0 hN h.b (fun r j c => ?_) (fun r j c c8 => ?_)
  · exact hQ r ⟨h.b.to j, fun q => absurd q c⟩ ⟨fun q a b d _ _ _ => j.fr q a b d, fun i hi => j.ff i (by omega)⟩
  · have c9 : σ 82 9 = 0 := Decidable.not_not.mp (fun w => j.fa w c)
    have hj := h.to j
    obtain ⟨ps, own, lo, lw, wf⟩ := hj.p c
    have dep := z_dep h.b.dp c8
    have eD : (σ 82 46).toNatClampNeg = tD σ := rfl
    have e46 : r 82 46 = σ 82 46 := j.ff 46 (by omega)
    have rD : tD r = tD σ := by unfold tD; rw [e46]
    rw [eD]
    generalize hR : zx_up (zx_up (zx_up (zx_up r 103 (tD σ) x1) 104 (tD σ) x2) 106 (tD σ) (r 82 40)) 82 46 (σ 82 46 + 1) = R
    have z : ∀ q, q ≠ 82 → q ≠ 103 → q ≠ 104 → q ≠ 106 → R q = r q := fun q a b d e => by rw [← hR, zu_other a, zu_other e, zu_other d, zu_other b]
    have z82 : ∀ i, i ≠ 46 → R 82 i = r 82 i := fun i hi => by rw [← hR, zx_up_same, zu_ne hi, zu_other (by decide), zu_other (by decide), zu_other (by decide)]
    have z46 : R 82 46 = σ 82 46 + 1 := by rw [← hR, zx_up_same, zu_eq]
    have z103 : R 103 = zu (r 103) (tD σ) x1 := by rw [← hR, zu_other (by decide), zu_other (by decide), zu_other (by decide), zx_up_same]
    have z104 : R 104 = zu (r 104) (tD σ) x2 := by rw [← hR, zu_other (by decide), zu_other (by decide), zx_up_same, zu_other (by decide)]
    have Rb : tb R = tb r := by unfold tb; rw [z82 39 (by decide)]
    have RS : tS R = tS r := by unfold tS; rw [z82 39 (by decide), z 90 (by decide) (by decide) (by decide) (by decide)]
    have RD : tD R = tD r + 1 := by unfold tD; rw [z46, dep.2, e46]
    have rb : tb r = tb σ := by unfold tb; rw [j.ff 39 (by omega)]
    have rS : tS r = tS σ := by unfold tS; rw [j.ff 39 (by omega), j.fr 90 (by decide) (by decide) (by decide)]
    refine hQ R ⟨?_, fun _ => ⟨?_, own, lo, lw, ?_⟩⟩ ⟨fun q a b d e f g => (z q a e f g).trans (j.fr q a b d), fun i hi => (z82 i (by omega)).trans (j.ff i (by omega))⟩
    · obtain ⟨t1, t2, t3, t4, t5, t6, t7, t8⟩ := hj.b.tk
      refine ⟨fun q hq => (z q (by omega) (by omega) (by omega) (by omega)).trans (hj.b.fr q hq), fun i hi => (z82 i (by omega)).trans (hj.b.ff i hi), ⟨by rw [z82 4 (by decide)]; exact t1, by rw [z82 5 (by decide)]; exact t2, by rw [z82 6 (by decide)]; exact t3, by rw [z82 5 (by decide), z82 6 (by decide)]; exact t4, by rw [z82 7 (by decide), z82 6 (by decide)]; exact t5, by rw [z82 7 (by decide), z82 6 (by decide)]; exact t6, by rw [z82 7 (by decide), z82 8 (by decide)]; exact t7, by rw [z 86 (by decide) (by decide) (by decide) (by decide)]; exact t8⟩, by rw [z82 5 (by decide)]; exact hj.b.mo, by rw [z82 9 (by decide)]; exact hj.b.fa, by rw [z82 18 (by decide)]; exact hj.b.lc, by rw [z82 15 (by decide)]; exact hj.b.nf, by rw [z82 16 (by decide)]; exact hj.b.nl, by rw [z82 17 (by decide)]; exact hj.b.nt, by rw [z82 19 (by decide)]; exact hj.b.lt, by rw [z 90 (by decide) (by decide) (by decide) (by decide)]; exact hj.b.st, by rw [z82 39 (by decide)]; exact hj.b.th, by rw [z46]; exact dep.1, by rw [z82 25 (by decide)]; exact hj.b.ns⟩
    · obtain ⟨a, b, d, e, g, k⟩ := ps
      refine ⟨by rw [z82 17 (by decide), z82 39 (by decide)]; exact a, ?_, by rw [z82 39 (by decide), z 90 (by decide) (by decide) (by decide) (by decide), z 92 (by decide) (by decide) (by decide) (by decide), z 94 (by decide) (by decide) (by decide) (by decide), z 95 (by decide) (by decide) (by decide) (by decide)]; exact d, by rw [z82 19 (by decide), Rb, RS]; exact e, by rw [z82 25 (by decide), z82 17 (by decide), z 91 (by decide) (by decide) (by decide) (by decide)]; exact g, ?_⟩
      · rw [z82 39 (by decide), z82 19 (by decide), z 90 (by decide) (by decide) (by decide) (by decide)]
        intro t s h1' h2' h3'
        exact (b t s h1' h2' h3').of (fun q hq => by rw [z q (by omega) (by omega) (by omega) (by omega)]) ⟨Int32.le_refl _, hj.b.lt.1, Int32.le_trans hj.b.lt.2 (by decide)⟩
      · rw [Rb, RS, RD, rD, z103, z104, z 93 (by decide) (by decide) (by decide) (by decide)]
        intro d' hd hk
        by_cases q : d' = tD σ
        · rw [q, zu_eq] at hk
          obtain ⟨s, s1, s2, s3⟩ := h1 c9 hk
          exact ⟨s, by rw [rS]; exact s1, by rw [q, zu_eq]; exact s2, by rw [rb, j.fr 93 (by decide) (by decide) (by decide)]; exact s3.1, by rw [rb, j.fr 93 (by decide) (by decide) (by decide)]; exact s3.2, by simp⟩
        · rw [zu_ne q] at hk
          rw [zu_ne q]
          exact k d' (by omega) hk
    · unfold WFG at wf ⊢
      rw [Rb, RS, RD, z103, z104, z82 37 (by decide), z 92 (by decide) (by decide) (by decide) (by decide), z 94 (by decide) (by decide) (by decide) (by decide), z 95 (by decide) (by decide) (by decide) (by decide), z 102 (by decide) (by decide) (by decide) (by decide), z 105 (by decide) (by decide) (by decide) (by decide), rD]
      rw [rD] at wf
      exact wf.opn (h3 c9) h4 (hp c9)
/-- the depth goes back by one -/
theorem JB.down {σ0 σ : zS} (h : JB σ0 σ) (h1 : 1 ≤ σ 82 46) : JB σ0 (zx_up σ 82 46 (σ 82 46 - 1)) ∧ tD σ = tD (zx_up σ 82 46 (σ 82 46 - 1)) + 1 ∧ ((0 ≤ σ 82 46 - 1 ∧ σ 82 46 - 1 < 10) ∧ (σ 82 46 - 1).toNatClampNeg = tD (zx_up σ 82 46 (σ 82 46 - 1))) := by
  have z82 : ∀ i, i ≠ 46 → (zx_up σ 82 46 (σ 82 46 - 1)) 82 i = σ 82 i := fun i hi => by rw [zx_up_same, zu_ne hi]
  have z46 : (zx_up σ 82 46 (σ 82 46 - 1)) 82 46 = σ 82 46 - 1 := by rw [zx_up_same, zu_eq]
  have z : ∀ q, q ≠ 82 → (zx_up σ 82 46 (σ 82 46 - 1)) q = σ q := fun q hq => zu_other hq
  have b : (0 ≤ σ 82 46 - 1 ∧ σ 82 46 - 1 ≤ 8) ∧ (σ 82 46 - 1 < 10 ∧ σ 82 46 - 1 < 8) ∧ σ 82 46 - 1 + 1 = σ 82 46 := by
    have := h.dp.1; have := h.dp.2
    clear h z82 z46 z
    generalize σ 82 46 = V at *
    grind
  have e := z_succn b.1.1 b.2.1.2
  rw [b.2.2] at e
  refine ⟨?_, ?_, ⟨b.1.1, b.2.1.1⟩, ?_⟩
  · obtain ⟨t1, t2, t3, t4, t5, t6, t7, t8⟩ := h.tk
    refine ⟨fun q hq => (z q (by omega)).trans (h.fr q hq), fun i hi => (z82 i (by omega)).trans (h.ff i hi), ⟨by rw [z82 4 (by decide)]; exact t1, by rw [z82 5 (by decide)]; exact t2, by rw [z82 6 (by decide)]; exact t3, by rw [z82 5 (by decide), z82 6 (by decide)]; exact t4, by rw [z82 7 (by decide), z82 6 (by decide)]; exact t5, by rw [z82 7 (by decide), z82 6 (by decide)]; exact t6, by rw [z82 7 (by decide), z82 8 (by decide)]; exact t7, by rw [z 86 (by decide)]; exact t8⟩, by rw [z82 5 (by decide)]; exact h.mo, by rw [z82 9 (by decide)]; exact h.fa, by rw [z82 18 (by decide)]; exact h.lc, by rw [z82 15 (by decide)]; exact h.nf, by rw [z82 16 (by decide)]; exact h.nl, by rw [z82 17 (by decide)]; exact h.nt, by rw [z82 19 (by decide)]; exact h.lt, by rw [z 90 (by decide)]; exact h.st, by rw [z82 39 (by decide)]; exact h.th, by rw [z46]; exact b.1, by rw [z82 25 (by decide)]; exact h.ns⟩
  · unfold tD; rw [z46]; exact e
  · unfold tD; rw [z46]
theorem PS.down {σ : zS} (h : PS σ none) (hL : 0 ≤ σ 82 19 ∧ σ 82 19 ≤ 96) (hd : tD σ = tD (zx_up σ 82 46 (σ 82 46 - 1)) + 1) : PS (zx_up σ 82 46 (σ 82 46 - 1)) none := by
  have z82 : ∀ i, i ≠ 46 → (zx_up σ 82 46 (σ 82 46 - 1)) 82 i = σ 82 i := fun i hi => by rw [zx_up_same, zu_ne hi]
  have z : ∀ q, q ≠ 82 → (zx_up σ 82 46 (σ 82 46 - 1)) q = σ q := fun q hq => zu_other hq
  have e1 : tb (zx_up σ 82 46 (σ 82 46 - 1)) = tb σ := by unfold tb; rw [z82 39 (by decide)]
  have e2 : tS (zx_up σ 82 46 (σ 82 46 - 1)) = tS σ := by unfold tS; rw [z82 39 (by decide), z 90 (by decide)]
  obtain ⟨a, b, d, e, g, k⟩ := h
  refine ⟨by rw [z82 17 (by decide), z82 39 (by decide)]; exact a, ?_, by rw [z82 39 (by decide), z 90 (by decide), z 92 (by decide), z 94 (by decide), z 95 (by decide)]; exact d, by rw [z82 19 (by decide), e1, e2]; exact e, by rw [z82 25 (by decide), z82 17 (by decide), z 91 (by decide)]; exact g, ?_⟩
  · rw [z82 39 (by decide), z82 19 (by decide), z 90 (by decide)]
    intro t s h1' h2' h3'
    exact (b t s h1' h2' h3').of (fun q hq => by rw [z q (by omega)]) ⟨Int32.le_refl _, hL.1, Int32.le_trans hL.2 (by decide)⟩
  · rw [e1, e2, z 103 (by decide), z 104 (by decide), z 93 (by decide)]
    intro d' hd'
    exact k d' (by omega)
/-- the state with one block less, as its lists say -/
theorem WFG.down {σ : zS} {own : Nat → Nat} {lo : List Nat} {lw : Nat → List Nat} (hw : WFA (σ 102) (fun s => σ 94 (tb σ + s)) (fun s => σ 95 (tb σ + s)) (fun s => σ 92 (tb σ + s)) (σ 82 37) (σ 103) (σ 104) (σ 105) (tS σ) (tD (zx_up σ 82 46 (σ 82 46 - 1))) none own lo lw) : WFG (zx_up σ 82 46 (σ 82 46 - 1)) none own lo lw := by
  have z82 : ∀ i, i ≠ 46 → (zx_up σ 82 46 (σ 82 46 - 1)) 82 i = σ 82 i := fun i hi => by rw [zx_up_same, zu_ne hi]
  have z : ∀ q, q ≠ 82 → (zx_up σ 82 46 (σ 82 46 - 1)) q = σ q := fun q hq => zu_other hq
  have e1 : tb (zx_up σ 82 46 (σ 82 46 - 1)) = tb σ := by unfold tb; rw [z82 39 (by decide)]
  have e2 : tS (zx_up σ 82 46 (σ 82 46 - 1)) = tS σ := by unfold tS; rw [z82 39 (by decide), z 90 (by decide)]
  unfold WFG
  rw [e1, e2, z 92 (by decide), z 94 (by decide), z 95 (by decide), z 102 (by decide), z 103 (by decide), z 104 (by decide), z 105 (by decide), z82 37 (by decide)]
  exact hw
/-! A BLOCK IS CLOSED -/
theorem z_way {x : Int32} {s : Nat} (h : x.toInt = (s : Int)) (hs : s < 24) : (0 ≤ 2 * x + 1 ∧ 2 * x + 1 < 48) ∧ (2 * x + 1).toInt = ((2 * s + 1 : Nat) : Int) ∧ (2 * x + 1).toNatClampNeg = 2 * s + 1 := by
  have k2 : (2 : Int32).toInt = 2 := rfl
  have k1 : (1 : Int32).toInt = 1 := rfl
  have a1 := z_ti_mul (a := 2) (b := x) (by rw [k2]; omega) (by rw [k2]; omega)
  rw [k2] at a1
  have a2 := z_ti_add (a := 2 * x) (b := 1) (by omega) (by omega)
  have e : (2 * x + 1).toInt = ((2 * s + 1 : Nat) : Int) := by omega
  refine ⟨⟨Int32.le_iff_toInt_le.mpr (by rw [e]; show (0 : Int) ≤ _; omega), Int32.lt_iff_toInt_lt.mpr (by rw [e]; show _ < (48 : Int); omega)⟩, e, z_of e⟩
theorem z_step {σ : zS} {x : Int32} {s : Nat} (h : x.toInt = (s : Int)) (hs : s < 24) (ht : 0 ≤ σ 82 39 ∧ σ 82 39 < 4) : (0 ≤ 24 * σ 82 39 + x ∧ 24 * σ 82 39 + x < 96) ∧ (24 * σ 82 39 + x).toNatClampNeg = tb σ + s := by
  have b : 0 ≤ x ∧ x < 24 := ⟨Int32.le_iff_toInt_le.mpr (by rw [h]; show (0 : Int) ≤ _; omega), Int32.lt_iff_toInt_lt.mpr (by rw [h]; show _ < (24 : Int); omega)⟩
  obtain ⟨p, q⟩ := z_idx ht b
  exact ⟨p, by rw [q, z_of h]; rfl⟩
/-- words of the token are the same, and nothing is wrong -/
def TE (σ r : zS) : Prop := r 82 5 = σ 82 5 ∧ r 82 7 = σ 82 7 ∧ r 82 9 = 0 ∧ r 82 46 = σ 82 46
theorem q_b_177a {N : Nat} (hN : zBig ≤ N) {σ0 σ ρ : zS} {Q : zS → Prop} (te : TE σ ρ) (hJ : JP σ0 (zx_up ρ 82 46 (ρ 82 46 - 1)) none none) (bd : (0 ≤ σ 82 46 - 1 ∧ σ 82 46 - 1 < 10) ∧ (σ 82 46 - 1).toNatClampNeg = tD (zx_up ρ 82 46 (ρ 82 46 - 1))) (hk : ¬ ρ 103 (tD (zx_up ρ 82 46 (ρ 82 46 - 1))) = 3) (h7 : ¬ σ 82 7 = 0) (hQ : ∀ r, JP σ0 r none none → (r 82 9 = 0 → σ 82 5 < r 82 5) → Q r) : zq (zb_M_closeBlock_177 N ρ (σ 82 46 - 1)) Q := by
  unfold zb_M_closeBlock_177
  refine zq_bind (q_f_M_next hN hJ.b.q fun r7 j7 f7 p7 => ?_)
  refine zq_chk bd.1 fun _ => ?_
  have e3 : r7 103 = ρ 103 := (j7.fr 103 (by decide) (by decide) (by decide)).trans (zu_other (by decide))
  have pr : σ 82 5 < r7 82 5 := by
    have := p7 (by rw [zx_up_same, zu_ne (by decide), te.2.1]; exact h7)
    rw [zx_up_same, zu_ne (by decide), te.1] at this
    exact this
  rw [e3, bd.2]
  refine zq_ite (fun _ => hQ _ (hJ.to j7) (fun _ => pr)) fun c => absurd (Decidable.not_not.mp c) hk
theorem q_b_177b {N : Nat} (hN : zBig ≤ N) {σ0 σ : zS} {Q : zS → Prop} (h : JP σ0 σ none none) (c9 : σ 82 9 = 0) (h1 : 1 ≤ σ 82 46) (hk : σ 103 (tD (zx_up σ 82 46 (σ 82 46 - 1))) = 3) (h7 : ¬ σ 82 7 = 0) (hQ : ∀ r, JP σ0 r none none → (r 82 9 = 0 → σ 82 5 < r 82 5) → Q r) : zq (zb_M_closeBlock_177 N σ (σ 82 46 - 1)) Q := by
  obtain ⟨jb, hD, bd⟩ := h.b.down h1
  obtain ⟨ps, own, lo, lw, wf⟩ := h.p c9
  have ps' := ps.down h.b.lt hD
  have hL := h.b.lt
  generalize hρ : zx_up σ 82 46 (σ 82 46 - 1) = ρ at *
  have z82 : ∀ i, i ≠ 46 → ρ 82 i = σ 82 i := fun i hi => by rw [← hρ, zx_up_same, zu_ne hi]
  have z : ∀ q, q ≠ 82 → ρ q = σ q := fun q hq => by rw [← hρ, zu_other hq]
  unfold WFG at wf
  rw [hD] at wf
  obtain ⟨s, s1, s2, s3⟩ := wf.d (tD ρ) (by omega) (Or.inl hk)
  have S24 : tS σ ≤ 24 := z_t24 _ h.b.st
  unfold zb_M_closeBlock_177
  rw [hρ]
  refine zq_bind (q_f_M_next hN jb.q fun r7 j7 f7 p7 => ?_)
  refine zq_chk bd.1 fun _ => ?_
  rw [bd.2]
  have e7 : ∀ q, q ≠ 82 → q ≠ 85 → q ≠ 86 → r7 q = σ q := fun q a b c => (j7.fr q a b c).trans (z q a)
  have g7 : ∀ i, (i < 5 ∨ (11 < i ∧ i ≠ 18)) → i ≠ 46 → r7 82 i = σ 82 i := fun i hi h46 => (j7.ff i hi).trans (z82 i h46)
  have pr : σ 82 5 < r7 82 5 := by
    have := p7 (by rw [z82 7 (by decide)]; exact h7)
    rw [z82 5 (by decide)] at this
    exact this
  have n9 : r7 82 9 = 0 := (f7.ff 9 (by decide) (by decide) (by decide) (by decide)).trans ((z82 9 (by decide)).trans c9)
  have b7 := jb.to j7
  have ps7 : PS r7 none := ps'.of (fun q hq => j7.fr q (by omega) (by omega) (by omega)) (fun i hi => j7.ff i (by omega)) (by rw [z82 19 (by decide)]; exact hL)
  have tb7 : tb r7 = tb σ := by unfold tb; rw [g7 39 (by omega) (by decide)]
  have tS7 : tS r7 = tS σ := by unfold tS; rw [g7 39 (by omega) (by decide), e7 90 (by decide) (by decide) (by decide)]
  have tD7 : tD r7 = tD ρ := by unfold tD; rw [j7.ff 46 (by omega)]
  rw [e7 103 (by decide) (by decide) (by decide)]
  refine zq_ite (fun c => absurd hk c) fun _ => ?_
  refine zq_bind (q_f_M_isWord fun r10 _ => ?_)
  obtain ⟨w1, w2, w3⟩ := z_way s2 (by omega)
  refine zq_ite (fun _ => ?_) fun _ => ?_
  · -- no 'else'
    refine zq_chk bd.1 fun _ => ?_
    rw [e7 104 (by decide) (by decide) (by decide)]
    unfold zf_M_wayOf
    refine zq_bind (zq_chk w1 fun _ => ?_)
    show zq ((zf_M_joinOpen N (zx_up r7 102 (2 * σ 104 (tD ρ) + 1).toNatClampNeg (-1)) (2 * σ 104 (tD ρ) + 1)).bind fun r14 => some r14) Q
    rw [w3]
    have nlo : 2 * s + 1 ∉ lo := fun q => by have := wf.a1 _ q; omega
    have y102 : (zx_up r7 102 (2 * s + 1) (-1)) 102 = zu (σ 102) (2 * s + 1) (-1) := by rw [zx_up_same, e7 102 (by decide) (by decide) (by decide)]
    have y82 : (zx_up r7 102 (2 * s + 1) (-1)) 82 = r7 82 := zu_other (by decide)
    refine zq_bind (q_f_M_joinOpen hN (l := [2 * s + 1]) (lo := lo) ?_ ?_ ?_ fun r14 f14 => ?_)
    · rw [y102]; exact ⟨⟨by omega, w2⟩, zu_eq⟩
    · rw [y102, y82, g7 37 (by omega) (by decide)]
      exact Ch.congr (fun k hk => zu_ne (fun q => nlo (q ▸ hk))) wf.a
    · intro k hk; rw [List.mem_singleton.mp hk]; exact nlo
    · have F : ∀ q, q ≠ 82 → q ≠ 85 → q ≠ 86 → q ≠ 102 → r14 q = σ q := fun q a b c d => (f14.fr q a d).trans ((zu_other d).trans (e7 q a b c))
      have G : ∀ i, i ≠ 37 → r14 82 i = r7 82 i := fun i hi => (f14.ff i hi).trans (by rw [y82])
      have jb14 : JB σ0 r14 := b7.of (fun q hq => (f14.fr q (by omega) (by omega)).trans (zu_other (by omega))) (fun i a b c => G i a) ((f14.fr 90 (by decide) (by decide)).trans (zu_other (by decide)))
      have side := wf.side (ch' := r14 102) (op' := r14 82 37) (Or.inl hk) s2 S24 (fun k hk => by
        rw [f14.ce k (fun q => hk (List.mem_singleton.mp q)), y102, zu_ne hk]) f14.ch
      suffices W : WFG r14 none (fun k => if k = 2 * s + 1 then 1 else own k) ((2 * s + 1) :: lo) lw from hQ _ ⟨jb14, fun _ => ⟨ps7.of (fun q hq => (f14.fr q (by omega) (by omega)).trans (zu_other (by omega))) (fun i hi => G i (by omega)) (by rw [g7 19 (by omega) (by decide)]; exact hL), _, _, _, W⟩⟩ (fun _ => by rw [G 5 (by decide)]; exact pr)
      unfold WFG
      have e1 : tb r14 = tb σ := by unfold tb; rw [G 39 (by decide), g7 39 (by omega) (by decide)]
      have e2 : tS r14 = tS σ := by unfold tS; rw [G 39 (by decide), g7 39 (by omega) (by decide), F 90 (by decide) (by decide) (by decide) (by decide)]
      have e3 : tD r14 = tD ρ := by rw [← tD7]; unfold tD; rw [G 46 (by decide)]
      rw [e1, e2, e3, F 92 (by decide) (by decide) (by decide) (by decide), F 94 (by decide) (by decide) (by decide) (by decide), F 95 (by decide) (by decide) (by decide) (by decide), F 103 (by decide) (by decide) (by decide) (by decide), F 104 (by decide) (by decide) (by decide) (by decide), F 105 (by decide) (by decide) (by decide) (by decide)]
      exact side
  · -- 'else'
    refine zq_bind (q_f_M_next hN b7.q fun r15 j15 f15 _ => ?_)
    refine zq_chk bd.1 fun _ => ?_
    have e15 : ∀ q, q ≠ 82 → q ≠ 85 → q ≠ 86 → r15 q = σ q := fun q a b c => (j15.fr q a b c).trans (e7 q a b c)
    have g15 : ∀ i, (i < 5 ∨ (11 < i ∧ i ≠ 18)) → i ≠ 46 → r15 82 i = σ 82 i := fun i hi h46 => (j15.ff i hi).trans (g7 i hi h46)
    have n15 : r15 82 9 = 0 := (f15.ff 9 (by decide) (by decide) (by decide) (by decide)).trans n9
    rw [e15 104 (by decide) (by decide) (by decide)]
    unfold zf_M_wayOf
    refine zq_bind (zq_chk w1 fun _ => ?_)
    rw [w3]
    show zq (if 0 ≤ σ 82 46 - 1 ∧ σ 82 46 - 1 < 10 then (zf_M_openBlock N (zx_up (zx_up r15 102 (2 * s + 1) (-1)) 82 37 (2 * σ 104 (tD ρ) + 1)) 4 ((zx_up r15 102 (2 * s + 1) (-1)) 104 (tD ρ))).bind fun r19 => if 0 ≤ σ 82 46 - 1 ∧ σ 82 46 - 1 < 10 then some (zx_up r19 105 (tD ρ) (r15 82 37)) else none else none) Q
    refine zq_chk bd.1 fun _ => ?_
    have y104 : (zx_up r15 102 (2 * s + 1) (-1)) 104 (tD ρ) = σ 104 (tD ρ) := by rw [zu_other (by decide), e15 104 (by decide) (by decide) (by decide)]
    rw [y104]
    generalize hY : zx_up (zx_up r15 102 (2 * s + 1) (-1)) 82 37 (2 * σ 104 (tD ρ) + 1) = Y
    have yq : ∀ q, q ≠ 82 → q ≠ 102 → Y q = r15 q := fun q a b => by rw [← hY, zu_other a, zu_other b]
    have y82 : ∀ i, i ≠ 37 → Y 82 i = r15 82 i := fun i hi => by rw [← hY, zx_up_same, zu_ne hi, zu_other (by decide)]
    have y37 : Y 82 37 = 2 * σ 104 (tD ρ) + 1 := by rw [← hY, zx_up_same, zu_eq]
    have y102 : Y 102 = zu (σ 102) (2 * s + 1) (-1) := by rw [← hY, zu_other (by decide), zx_up_same, e15 102 (by decide) (by decide) (by decide)]
    have b15 := b7.to j15
    have bY : JB σ0 Y := b15.of (fun q hq => yq q (by omega) (by omega)) (fun i a b c => y82 i a) (yq 90 (by decide) (by decide))
    have Y46 : Y 82 46 = ρ 82 46 := (y82 46 (by decide)).trans ((j15.ff 46 (by omega)).trans (j7.ff 46 (by omega)))
    have YD : (Y 82 46).toNatClampNeg = tD ρ := by rw [Y46]; rfl
    have mo15 : σ 82 5 < r15 82 5 := Int32.lt_of_lt_of_le pr j15.mo
    refine zq_bind (q_f_M_openBlock0 hN bY (fun r j c => ?_) (fun r j c c8 => ?_))
    · refine zq_chk bd.1 fun _ => hQ _ ⟨?_, ?_⟩ ?_
      · exact (bY.to j).of (fun q hq => zu_other (by omega)) (fun i _ _ _ => by rw [zu_other (by decide)]) (zu_other (by decide))
      · rw [zu_other (by decide)]; exact fun q => absurd q c
      · rw [zu_other (by decide)]; exact fun q => absurd q c
    · refine zq_chk bd.1 fun _ => ?_
      rw [YD]
      have dep := z_dep bY.dp c8
      generalize hR : zx_up (zx_up (zx_up (zx_up (zx_up r 103 (tD ρ) 4) 104 (tD ρ) (σ 104 (tD ρ))) 106 (tD ρ) (r 82 40)) 82 46 (Y 82 46 + 1)) 105 (tD ρ) (r15 82 37) = R
      have z1 : ∀ q, q ≠ 82 → q ≠ 103 → q ≠ 104 → q ≠ 105 → q ≠ 106 → R q = r q := fun q a b d e f => by rw [← hR, zu_other e, zu_other a, zu_other f, zu_other d, zu_other b]
      have r82 : ∀ i, i ≠ 46 → R 82 i = r 82 i := fun i hi => by rw [← hR, zu_other (by decide), zx_up_same, zu_ne hi, zu_other (by decide), zu_other (by decide), zu_other (by decide)]
      have r46 : R 82 46 = Y 82 46 + 1 := by rw [← hR, zu_other (by decide), zx_up_same, zu_eq]
      have r103 : R 103 = zu (σ 103) (tD ρ) 4 := by rw [← hR, zu_other (by decide), zu_other (by decide), zu_other (by decide), zu_other (by decide), zx_up_same, j.fr 103 (by decide) (by decide) (by decide), yq 103 (by decide) (by decide), e15 103 (by decide) (by decide) (by decide)]
      have r104 : R 104 = σ 104 := by
        rw [← hR, zu_other (by decide), zu_other (by decide), zu_other (by decide), zx_up_same, zu_other (by decide), j.fr 104 (by decide) (by decide) (by decide), yq 104 (by decide) (by decide), e15 104 (by decide) (by decide) (by decide)]
        funext d
        by_cases q : d = tD ρ
        · rw [q, zu_eq]
        · rw [zu_ne q]
      have r105 : R 105 = zu (σ 105) (tD ρ) (σ 82 37) := by rw [← hR, zx_up_same, zu_other (by decide), zu_other (by decide), zu_other (by decide), zu_other (by decide), j.fr 105 (by decide) (by decide) (by decide), yq 105 (by decide) (by decide), e15 105 (by decide) (by decide) (by decide), g15 37 (by omega) (by decide)]
      have rq : ∀ q, q ≠ 82 → q ≠ 85 → q ≠ 86 → q ≠ 102 → q ≠ 103 → q ≠ 104 → q ≠ 105 → q ≠ 106 → R q = σ q := fun q a b c d e f g i => (z1 q a e f g i).trans ((j.fr q a b c).trans ((yq q a d).trans (e15 q a b c)))
      have rf : ∀ i, (i < 5 ∨ (11 < i ∧ i ≠ 18)) → i ≠ 46 → i ≠ 37 → R 82 i = σ 82 i := fun i hi a b => (r82 i a).trans ((j.ff i hi).trans ((y82 i b).trans (g15 i hi a)))
      have R37 : R 82 37 = 2 * σ 104 (tD ρ) + 1 := (r82 37 (by decide)).trans ((j.ff 37 (by omega)).trans y37)
      have R102 : R 102 = zu (σ 102) (2 * s + 1) (-1) := (z1 102 (by decide) (by decide) (by decide) (by decide) (by decide)).trans ((j.fr 102 (by decide) (by decide) (by decide)).trans y102)
      have e1 : tb R = tb σ := by unfold tb; rw [rf 39 (by omega) (by decide) (by decide)]
      have e2 : tS R = tS σ := by unfold tS; rw [rf 39 (by omega) (by decide) (by decide), rq 90 (by decide) (by decide) (by decide) (by decide) (by decide) (by decide) (by decide) (by decide)]
      have e3 : tD R = tD ρ + 1 := by unfold tD; rw [r46, dep.2, Y46]
      have bj := bY.to j
      refine hQ R ⟨?_, fun _ => ⟨?_, fun k => if k = 2 * s + 1 then 1 else if own k = 1 then tD ρ + 2 else own k, [2 * s + 1], fun d => if d = tD ρ then lo else lw d, ?_⟩⟩ (fun _ => ?_)
      · obtain ⟨t1, t2, t3, t4, t5, t6, t7, t8⟩ := bj.tk
        refine ⟨fun q hq => (z1 q (by omega) (by omega) (by omega) (by omega) (by omega)).trans (bj.fr q hq), fun i hi => (r82 i (by omega)).trans (bj.ff i hi), ⟨by rw [r82 4 (by decide)]; exact t1, by rw [r82 5 (by decide)]; exact t2, by rw [r82 6 (by decide)]; exact t3, by rw [r82 5 (by decide), r82 6 (by decide)]; exact t4, by rw [r82 7 (by decide), r82 6 (by decide)]; exact t5, by rw [r82 7 (by decide), r82 6 (by decide)]; exact t6, by rw [r82 7 (by decide), r82 8 (by decide)]; exact t7, by rw [z1 86 (by decide) (by decide) (by decide) (by decide) (by decide)]; exact t8⟩, by rw [r82 5 (by decide)]; exact bj.mo, by rw [r82 9 (by decide)]; exact bj.fa, by rw [r82 18 (by decide)]; exact bj.lc, by rw [r82 15 (by decide)]; exact bj.nf, by rw [r82 16 (by decide)]; exact bj.nl, by rw [r82 17 (by decide)]; exact bj.nt, by rw [r82 19 (by decide)]; exact bj.lt, by rw [z1 90 (by decide) (by decide) (by decide) (by decide) (by decide)]; exact bj.st, by rw [r82 39 (by decide)]; exact bj.th, by rw [r46]; exact dep.1, by rw [r82 25 (by decide)]; exact bj.ns⟩
      · obtain ⟨a, b, d, e, g, k⟩ := ps
        refine ⟨by rw [rf 17 (by omega) (by decide) (by decide), rf 39 (by omega) (by decide) (by decide)]; exact a, ?_, by rw [rf 39 (by omega) (by decide) (by decide), rq 90 (by decide) (by decide) (by decide) (by decide) (by decide) (by decide) (by decide) (by decide), rq 92 (by decide) (by decide) (by decide) (by decide) (by decide) (by decide) (by decide) (by decide), rq 94 (by decide) (by decide) (by decide) (by decide) (by decide) (by decide) (by decide) (by decide), rq 95 (by decide) (by decide) (by decide) (by decide) (by decide) (by decide) (by decide) (by decide)]; exact d, by rw [rf 19 (by omega) (by decide) (by decide), e1, e2]; exact e, by rw [rf 25 (by omega) (by decide) (by decide), rf 17 (by omega) (by decide) (by decide), rq 91 (by decide) (by decide) (by decide) (by decide) (by decide) (by decide) (by decide) (by decide)]; exact g, ?_⟩
        · rw [rf 39 (by omega) (by decide) (by decide), rf 19 (by omega) (by decide) (by decide), rq 90 (by decide) (by decide) (by decide) (by decide) (by decide) (by decide) (by decide) (by decide)]
          intro t u h1' h2' h3'
          exact (b t u h1' h2' h3').of (fun q hq => by rw [rq q (by omega) (by omega) (by omega) (by omega) (by omega) (by omega) (by omega) (by omega)]) ⟨Int32.le_refl _, hL.1, Int32.le_trans hL.2 (by decide)⟩
        · rw [e1, e2, e3, r103, r104, rq 93 (by decide) (by decide) (by decide) (by decide) (by decide) (by decide) (by decide) (by decide)]
          intro d' hd hk'
          have n : d' ≠ tD ρ := fun q => by rw [q, zu_eq] at hk'; exact absurd hk' (by decide)
          rw [zu_ne n] at hk'
          exact k d' (by omega) hk'
      · unfold WFG
        rw [e1, e2, e3, r103, r104, r105, R37, R102, rq 92 (by decide) (by decide) (by decide) (by decide) (by decide) (by decide) (by decide) (by decide), rq 94 (by decide) (by decide) (by decide) (by decide) (by decide) (by decide) (by decide) (by decide), rq 95 (by decide) (by decide) (by decide) (by decide) (by decide) (by decide) (by decide) (by decide)]
        exact wf.els hk s2 S24 w2
      · rw [r82 5 (by decide)]
        have : Y 82 5 ≤ r 82 5 := j.mo
        rw [y82 5 (by decide)] at this
        exact Int32.lt_of_lt_of_le mo15 this
/-! A BLOCK IS CLOSED: all sorts -/
theorem AS.te {σ r : zS} {s x1 x2 : Int32} (a : AS σ r s x1 x2) (c9 : σ 82 9 = 0) : TE σ r := ⟨a.ff 5 (by decide), a.ff 7 (by decide), (a.ff 9 (by decide)).trans c9, a.ff 46 (by decide)⟩
/-- the new step's content is right: nothing is wanting any more -/
theorem PS.well {σ : zS} {k : Nat} (h : PS σ (some k)) (c : SC σ k (σ 82 19)) : PS σ none := by
  obtain ⟨a, b, d, e, g, i⟩ := h
  refine ⟨a, fun t s h1 h2 _ => ?_, d, ?_, g, fun d hd hk => ?_⟩
  · by_cases q : k = 24 * t + s
    · rw [← q]; exact c
    · exact b t s h1 h2 (fun w => q (Option.some.inj w))
  · simp only [if_true]
    simp only [reduceCtorEq, if_false] at e
    omega
  · obtain ⟨s, s1, s2, s3, s4, _⟩ := i d hd hk
    exact ⟨s, s1, s2, s3, s4, by simp⟩
theorem q_f_M_closeBlock {N : Nat} (hN : zBig ≤ N) {σ0 σ : zS} {Q : zS → Prop} (h : JP σ0 σ none none) (c9 : σ 82 9 = 0) (h1 : 1 ≤ σ 82 46) (h7 : ¬ σ 82 7 = 0) (hQ : ∀ r, JP σ0 r none none → (r 82 9 = 0 → σ 82 5 < r 82 5) → Q r) : zq (zf_M_closeBlock N σ) Q := by
  obtain ⟨jb, hD, bd⟩ := h.b.down h1
  have hps := (h.p c9).1
  obtain ⟨own, lo, lw, wf⟩ := (h.p c9).2
  have hL := h.b.lt
  have wfA := wf
  unfold WFG at wfA
  rw [hD] at wfA
  have te0 : TE σ σ := ⟨rfl, rfl, c9, rfl⟩
  -- one block less, where no list is touched
  have drop : ∀ (ρ : zS), TE σ ρ → JB σ0 ρ → PS ρ none → WFS ρ none → ρ 103 = σ 103 → ¬ (σ 103 (tD (zx_up σ 82 46 (σ 82 46 - 1))) = 3 ∨ σ 103 (tD (zx_up σ 82 46 (σ 82 46 - 1))) = 5) → σ 103 (tD (zx_up σ 82 46 (σ 82 46 - 1))) ≠ 4 → zq (zb_M_closeBlock_177 N ρ (σ 82 46 - 1)) Q := by
    intro ρ te jρ pρ wρ e103 k35 k4
    have h1ρ : 1 ≤ ρ 82 46 := by rw [te.2.2.2]; exact h1
    obtain ⟨jb', hD', bd'⟩ := jρ.down h1ρ
    have eD : tD (zx_up ρ 82 46 (ρ 82 46 - 1)) = tD (zx_up σ 82 46 (σ 82 46 - 1)) := by
      rw [← bd'.2, ← bd.2, te.2.2.2]
    obtain ⟨own', lo', lw', w⟩ := wρ
    unfold WFG at w
    rw [hD'] at w
    refine q_b_177a hN te ⟨jb', fun _ => ⟨pρ.down jρ.lt hD', own', lo', lw', WFG.down (w.drop ⟨?_, ?_⟩)⟩⟩ ⟨bd.1, bd.2.trans eD.symm⟩ ?_ h7 hQ
    · rw [e103, eD]; exact k35
    · rw [e103, eD]; exact k4
    · rw [e103, eD]; exact fun q => k35 (Or.inl q)
  have same : ∀ (ρ : zS), (∀ q, q ≠ 82 → ρ q = σ q) → (∀ i, i ≠ 40 → i ≠ 41 → ρ 82 i = σ 82 i) → TE σ ρ ∧ JB σ0 ρ ∧ PS ρ none ∧ WFS ρ none := fun ρ e f =>
    ⟨⟨f 5 (by decide) (by decide), f 7 (by decide) (by decide), (f 9 (by decide) (by decide)).trans c9, f 46 (by decide) (by decide)⟩, h.b.of (fun q hq => e q (by omega)) (fun i _ b c => f i b c) (e 90 (by decide)), hps.of (fun q hq => e q (by omega)) (fun i hi => f i (by omega) (by omega)) hL, own, lo, lw, wf.of (fun q hq => e q (by omega)) (fun i hi => f i (by omega) (by omega))⟩
  have S24 : tS σ ≤ 24 := z_t24 _ h.b.st
  unfold zf_M_closeBlock
  refine zq_chk bd.1 fun _ => ?_
  rw [bd.2]
  refine zq_ite (fun k1 => ?_) fun k1 => ?_
  · -- 'lock'
    refine zq_chk bd.1 fun _ => ?_
    obtain ⟨s, s1, s2, s3a, s3b, _⟩ := hps.lb (tD (zx_up σ 82 46 (σ 82 46 - 1))) (by omega) k1
    have s3 : 0 ≤ σ 93 (tb σ + s) ∧ σ 93 (tb σ + s) ≤ 3 := ⟨s3a, s3b⟩
    obtain ⟨i1, i2⟩ := z_step (σ := σ) s2 (by omega) h.b.th
    refine zq_chk i1 fun _ => ?_
    rw [i2]
    refine zq_bind (q_f_M_addStep hN h.b hps (h.p c9).2 c9 fun r29 p29 => ?_)
    obtain ⟨b29, jb29, ff29, as29⟩ := p29
    refine zq_ite (fun q9 => ?_) fun q9 => ?_
    · obtain ⟨as, ps, ws⟩ := as29 q9
      have e104 : r29.2 104 = σ 104 := as.fr 104 (by decide) (by decide) (by decide) (by decide) (by decide) (by decide) (by decide) (by decide) (by decide)
      refine zq_chk bd.1 fun _ => zq_chk bd.1 fun _ => ?_
      rw [e104]
      refine zq_chk i1 fun _ => zq_chk bd.1 fun _ => zq_chk i1 fun _ => ?_
      rw [if_neg (by decide)] at ws
      have hl29 := jb29.lt
      have kd := as.kd
      have wh := as.wh
      have psw : PS r29.2 none := ps.well (by
        refine ⟨?_, ?_, ?_, ?_, ?_, ?_, ?_⟩
        · intro _; rw [wh]; exact ⟨Int32.le_trans (by decide) s3.1, Int32.le_trans s3.2 (by decide)⟩
        · intro q; rw [kd] at q; exact absurd q (by decide)
        · intro _; rw [wh]; exact s3
        · intro q; rw [kd] at q; exact absurd q (by decide)
        · intro q; rw [kd] at q; exact absurd q (by decide)
        · intro q; rw [kd] at q; exact absurd q (by decide)
        · intro q; rw [kd] at q; exact absurd q (by rintro (h | h | h | ⟨h, _⟩) <;> exact absurd h (by decide)))
      obtain ⟨own', lo', lw', w'⟩ := ws
      generalize hρ : zx_up r29.2 82 40 _ = ρ
      have zq' : ∀ q, q ≠ 82 → ρ q = r29.2 q := fun q hq => by rw [← hρ, zu_other hq]
      have z82 : ∀ i, i ≠ 40 → ρ 82 i = r29.2 82 i := fun i hi => by rw [← hρ, zx_up_same, zu_ne hi]
      refine drop ρ ⟨(z82 5 (by decide)).trans (as.ff 5 (by decide)), (z82 7 (by decide)).trans (as.ff 7 (by decide)), (z82 9 (by decide)).trans q9, (z82 46 (by decide)).trans (as.ff 46 (by decide))⟩ (jb29.of (fun q hq => zq' q (by omega)) (fun i _ b _ => z82 i b) (zq' 90 (by decide))) (psw.of (fun q hq => zq' q (by omega)) (fun i hi => z82 i (by omega)) hl29) ⟨own', lo', lw', w'.of (fun q hq => zq' q (by omega)) (fun i hi => z82 i (by omega))⟩ ((zq' 103 (by decide)).trans (as.fr 103 (by decide) (by decide) (by decide) (by decide) (by decide) (by decide) (by decide) (by decide) (by decide))) ?_ ?_
      · rw [k1]; decide
      · rw [k1]; decide
    · exact hQ _ ⟨jb29, fun q => absurd q q9⟩ (fun q => absurd q q9)
  · refine zq_ite (fun k2 => ?_) fun k2 => ?_
    · obtain ⟨a, b, c, d⟩ := same (zx_up σ 82 41 (-1)) (fun q hq => zu_other hq) (fun i _ h => by rw [zx_up_same, zu_ne h])
      exact drop _ a b c d (zu_other (by decide)) (by rw [k2]; decide) (by rw [k2]; decide)
    · refine zq_ite (fun k3 => ?_) fun k3 => ?_
      · exact q_b_177b hN h c9 h1 k3 h7 hQ
      · refine zq_ite (fun k4 => ?_) fun k4 => ?_
        · -- 'else'
          refine zq_chk bd.1 fun _ => ?_
          have cl := wfA.b (tD (zx_up σ 82 46 (σ 82 46 - 1))) (by omega) k4
          refine zq_bind (q_f_M_joinOpen hN (l := lw (tD (zx_up σ 82 46 (σ 82 46 - 1)))) (lo := lo) cl wfA.a (fun k hk hm => ?_) fun r26 f26 => ?_)
          · have := wfA.b1 _ k (by omega) k4 hk
            have := wfA.a1 k hm
            omega
          · have jn := wfA.join (ch' := r26 102) (op' := r26 82 37) k4 f26.ch f26.ce
            have F : ∀ q, q ≠ 82 → q ≠ 102 → r26 q = σ q := f26.fr
            have G : ∀ i, i ≠ 37 → r26 82 i = σ 82 i := f26.ff
            have te : TE σ r26 := ⟨G 5 (by decide), G 7 (by decide), (G 9 (by decide)).trans c9, G 46 (by decide)⟩
            have jr : JB σ0 r26 := h.b.of (fun q hq => F q (by omega) (by omega)) (fun i a _ _ => G i a) (F 90 (by decide) (by decide))
            have pr : PS r26 none := hps.of (fun q hq => F q (by omega) (by omega)) (fun i hi => G i (by omega)) hL
            have h1r : 1 ≤ r26 82 46 := by rw [te.2.2.2]; exact h1
            obtain ⟨jb', hD', bd'⟩ := jr.down h1r
            have eD : tD (zx_up r26 82 46 (r26 82 46 - 1)) = tD (zx_up σ 82 46 (σ 82 46 - 1)) := by rw [← bd'.2, ← bd.2, te.2.2.2]
            have e1 : tb r26 = tb σ := by unfold tb; rw [G 39 (by decide)]
            have e2 : tS r26 = tS σ := by unfold tS; rw [G 39 (by decide), F 90 (by decide) (by decide)]
            refine q_b_177a hN te ⟨jb', fun _ => ⟨pr.down jr.lt hD', _, _, _, WFG.down (by
              rw [e1, e2, eD, F 92 (by decide) (by decide), F 94 (by decide) (by decide), F 95 (by decide) (by decide), F 103 (by decide) (by decide), F 104 (by decide) (by decide), F 105 (by decide) (by decide)]
              exact jn)⟩⟩ ⟨bd.1, bd.2.trans eD.symm⟩ ?_ h7 hQ
            rw [F 103 (by decide) (by decide), eD, k4]; decide
        · refine zq_ite (fun k5 => ?_) fun k5 => ?_
          · -- 'while'
            refine zq_chk bd.1 fun _ => ?_
            obtain ⟨s, s1, s2, s3⟩ := wfA.d (tD (zx_up σ 82 46 (σ 82 46 - 1))) (by omega) (Or.inr k5)
            refine zq_bind (q_f_M_lead hN (lo := lo) h.b.th wfA.a fun r22 f22 => ?_)
            have e104 : r22 104 = σ 104 := f22.fr 104 (by decide) (by decide) (by decide)
            obtain ⟨w1, w2, w3⟩ := z_way s2 (by omega)
            refine zq_chk bd.1 fun _ => ?_
            rw [e104]
            unfold zf_M_wayOf
            refine zq_bind (zq_chk w1 fun _ => ?_)
            rw [w3]
            show zq (zb_M_closeBlock_177 N (zx_up (zx_up r22 102 (2 * s + 1) (-1)) 82 37 (2 * σ 104 (tD (zx_up σ 82 46 (σ 82 46 - 1))) + 1)) (σ 82 46 - 1)) Q
            have ld := wfA.lead (bh' := fun t => r22 94 (tb σ + t)) (ot' := fun t => r22 95 (tb σ + t)) (to := σ 104 (tD (zx_up σ 82 46 (σ 82 46 - 1)))) ⟨by omega, by omega⟩
              (fun t _ => by
                have := f22.b4 (tb σ + t)
                rw [this]
                simp only [Nat.le_add_right, true_and, Nat.add_sub_cancel_left])
              (fun t _ => by
                have := f22.b5 (tb σ + t)
                rw [this]
                simp only [Nat.le_add_right, true_and, Nat.add_sub_cancel_left])
            have sd := ld.side (ch' := zu (σ 102) (2 * s + 1) (-1)) (op' := 2 * σ 104 (tD (zx_up σ 82 46 (σ 82 46 - 1))) + 1) (Or.inr k5) s2 S24 (fun k hk => zu_ne hk) ⟨⟨by omega, w2⟩, zu_eq⟩
            generalize hY : zx_up (zx_up r22 102 (2 * s + 1) (-1)) 82 37 (2 * σ 104 (tD (zx_up σ 82 46 (σ 82 46 - 1))) + 1) = Y
            have yq : ∀ q, q ≠ 82 → q ≠ 94 → q ≠ 95 → q ≠ 102 → Y q = σ q := fun q a b c d => by rw [← hY, zu_other a, zu_other d]; exact f22.fr q a b c
            have yr : ∀ q, q ≠ 82 → q ≠ 102 → Y q = r22 q := fun q a d => by rw [← hY, zu_other a, zu_other d]
            have G : ∀ i, i ≠ 37 → Y 82 i = σ 82 i := fun i hi => by rw [← hY, zx_up_same, zu_ne hi, zu_other (by decide)]; exact f22.ff i hi
            have y37 : Y 82 37 = 2 * σ 104 (tD (zx_up σ 82 46 (σ 82 46 - 1))) + 1 := by rw [← hY, zx_up_same, zu_eq]
            have y102 : Y 102 = zu (σ 102) (2 * s + 1) (-1) := by rw [← hY, zu_other (by decide), zx_up_same, f22.fr 102 (by decide) (by decide) (by decide)]
            have te : TE σ Y := ⟨G 5 (by decide), G 7 (by decide), (G 9 (by decide)).trans c9, G 46 (by decide)⟩
            have jr : JB σ0 Y := h.b.of (fun q hq => yq q (by omega) (by omega) (by omega) (by omega)) (fun i a _ _ => G i a) (yq 90 (by decide) (by decide) (by decide) (by decide))
            have e1 : tb Y = tb σ := by unfold tb; rw [G 39 (by decide)]
            have e2 : tS Y = tS σ := by unfold tS; rw [G 39 (by decide), yq 90 (by decide) (by decide) (by decide) (by decide)]
            have e3 : tD Y = tD σ := by unfold tD; rw [G 46 (by decide)]
            have pr : PS Y none := by
              obtain ⟨a, b, d, e, g, k⟩ := hps
              refine ⟨by rw [G 17 (by decide), G 39 (by decide)]; exact a, ?_, ?_, by rw [G 19 (by decide), e1, e2]; exact e, by rw [G 25 (by decide), G 17 (by decide), yq 91 (by decide) (by decide) (by decide) (by decide)]; exact g, by rw [e1, e2, e3, yq 103 (by decide) (by decide) (by decide) (by decide), yq 104 (by decide) (by decide) (by decide) (by decide), yq 93 (by decide) (by decide) (by decide) (by decide)]; exact k⟩
              · rw [G 39 (by decide), G 19 (by decide), yq 90 (by decide) (by decide) (by decide) (by decide)]
                intro t u h1' h2' h3'
                exact (b t u h1' h2' h3').of (fun q hq => by rw [yq q (by omega) (by omega) (by omega) (by omega)]) ⟨Int32.le_refl _, hL.1, Int32.le_trans hL.2 (by decide)⟩
              · rw [G 39 (by decide), yq 90 (by decide) (by decide) (by decide) (by decide), yq 92 (by decide) (by decide) (by decide) (by decide)]
                intro t u h1' h2'
                have l : 24 * t + u < tb σ := by
                  have := z_t24 t h.b.st
                  unfold tb
                  omega
                rw [yr 94 (by decide) (by decide), yr 95 (by decide) (by decide), f22.b4, f22.b5, if_neg (by omega), if_neg (by omega)]
                exact d t u h1' h2'
            have h1r : 1 ≤ Y 82 46 := by rw [te.2.2.2]; exact h1
            obtain ⟨jb', hD', bd'⟩ := jr.down h1r
            have eD : tD (zx_up Y 82 46 (Y 82 46 - 1)) = tD (zx_up σ 82 46 (σ 82 46 - 1)) := by rw [← bd'.2, ← bd.2, te.2.2.2]
            refine q_b_177a hN te ⟨jb', fun _ => ⟨pr.down jr.lt hD', _, _, _, WFG.down (by
              rw [e1, e2, eD, y37, y102, yq 92 (by decide) (by decide) (by decide) (by decide), yr 94 (by decide) (by decide), yr 95 (by decide) (by decide), yq 103 (by decide) (by decide) (by decide) (by decide), yq 104 (by decide) (by decide) (by decide) (by decide), yq 105 (by decide) (by decide) (by decide) (by decide)]
              exact sd)⟩⟩ ⟨bd.1, bd.2.trans eD.symm⟩ ?_ h7 hQ
            rw [yq 103 (by decide) (by decide) (by decide) (by decide), eD, k5]; decide
          · obtain ⟨a, b, c, d⟩ := same σ (fun _ _ => rfl) (fun _ _ _ => rfl)
            exact drop σ a b c d rfl (fun q => q.elim k3 k5) k4
/-! STATEMENTS -/
def TN (σ r : zS) : Prop :=
  (∀ q, q ≠ 82 → q ≠ 85 → q ≠ 86 → q ≠ 87 → r q = σ q) ∧
  (∀ i, (i < 5 ∨ (11 < i ∧ i ≠ 18 ∧ i ≠ 19)) → r 82 i = σ 82 i) ∧
  (σ 82 5 ≤ r 82 5) ∧
  (¬ σ 82 9 = 0 → ¬ r 82 9 = 0) ∧
  ((σ 82 19).toInt ≤ (r 82 19).toInt ∧ (r 82 19).toInt ≤ (σ 82 19).toInt + 1)
theorem TN.fr {σ r : zS} (h : TN σ r) : ∀ q, q ≠ 82 → q ≠ 85 → q ≠ 86 → q ≠ 87 → r q = σ q := h.1
theorem TN.ff {σ r : zS} (h : TN σ r) : ∀ i, (i < 5 ∨ (11 < i ∧ i ≠ 18 ∧ i ≠ 19)) → r 82 i = σ 82 i := h.2.1
theorem TN.mo {σ r : zS} (h : TN σ r) : σ 82 5 ≤ r 82 5 := h.2.2.1
theorem TN.fa {σ r : zS} (h : TN σ r) : ¬ σ 82 9 = 0 → ¬ r 82 9 = 0 := h.2.2.2.1
theorem TN.la {σ r : zS} (h : TN σ r) : (σ 82 19).toInt ≤ (r 82 19).toInt ∧ (r 82 19).toInt ≤ (σ 82 19).toInt + 1 := h.2.2.2.2
theorem TN.jq {σ r : zS} (k : JQ σ r) : TN σ r := ⟨fun q a b c _ => k.fr q a b c, fun i hi => k.ff i (by omega), k.mo, k.fa, by rw [k.ff 19 (by omega)]; omega⟩
theorem z_4l {a : Int32} {n : Nat} (h : 0 ≤ a ∧ a ≤ 96) : (4 + a).toInt = 4 + a.toInt := by
  have a0 : 0 ≤ a.toInt := Int32.le_iff_toInt_le.mp h.1
  have a1 : a.toInt ≤ 96 := Int32.le_iff_toInt_le.mp h.2
  have k4 : (4 : Int32).toInt = 4 := rfl
  rw [← k4]; exact z_ti_add (by omega) (by omega)
theorem q_f_M_threadNamed {N : Nat} (hN : zBig ≤ N) {σ0 σ : zS} {Q : Int32 × zS → Prop} (h : JB σ0 σ) (hl : σ 82 9 = 0 → σ 82 19 < 96) (hQ : ∀ r, JB σ0 r.2 → TN σ r.2 → (r.2 82 9 = 0 → 0 ≤ r.1 ∧ r.1 < 4 + r.2 82 19) → Q r) : zq (zf_M_threadNamed N σ) Q := by
  unfold zf_M_threadNamed
  refine zq_ite (fun c9 => ?_) fun c9 => hQ _ h (TN.jq h.q) (fun q => absurd q c9)
  have l96 := hl c9
  have e46 : zq (zb_M_threadNamed_46 N σ) Q := by
    unfold zb_M_threadNamed_46
    exact zq_bind (q_f_M_cannot fun r a b => hQ _ (h.to (FF.jq h.q a b)) (TN.jq (FF.jq h.q a b)) (fun q => absurd q b))
  -- the end: 'next', and the number
  have e116 : ∀ (ρ : zS) (v : Int32), JB σ0 ρ → TN σ ρ → (0 ≤ v ∧ v < 4 + ρ 82 19) → zq (zb_M_threadNamed_116 N ρ v) Q := by
    intro ρ v jρ tρ hv
    unfold zb_M_threadNamed_116
    refine zq_bind (q_f_M_next hN jρ.q fun r j _ _ => ?_)
    have k := TN.jq j
    refine hQ _ (jρ.to j) ⟨fun q a b c d => (k.fr q a b c d).trans (tρ.fr q a b c d), fun i hi => (k.ff i hi).trans (tρ.ff i hi), Int32.le_trans tρ.mo k.mo, fun q => k.fa (tρ.fa q), ?_⟩ (fun _ => ?_)
    · have e : r 82 19 = ρ 82 19 := j.ff 19 (by omega)
      show _ ≤ (r 82 19).toInt ∧ (r 82 19).toInt ≤ _
      rw [e]; exact tρ.la
    · have e : r 82 19 = ρ 82 19 := j.ff 19 (by omega)
      show 0 ≤ v ∧ v < 4 + r 82 19
      rw [e]; exact hv
  have lt := h.lt
  have t0 : TN σ σ := TN.jq h.q
  have sum : ∀ (v : Int32), 0 ≤ v ∧ v < σ 82 19 → 0 ≤ 4 + v ∧ 4 + v < 4 + σ 82 19 := by
    intro v hv
    have s1 := z_4l (n := 0) lt
    have v0 : 0 ≤ v.toInt := Int32.le_iff_toInt_le.mp hv.1
    have v1 := Int32.lt_iff_toInt_lt.mp hv.2
    have l1 : (σ 82 19).toInt ≤ 96 := Int32.le_iff_toInt_le.mp lt.2
    have k4 : (4 : Int32).toInt = 4 := rfl
    have s2 := z_ti_add (a := 4) (b := v) (by omega) (by omega)
    exact ⟨Int32.le_iff_toInt_le.mpr (by rw [s2]; show (0 : Int) ≤ _; omega), Int32.lt_iff_toInt_lt.mpr (by omega)⟩
  have e52 : σ 82 7 = 2 → ∀ v, (v = -1 ∨ (0 ≤ v ∧ v < 4)) → zq (zb_M_threadNamed_52 N σ v) Q := by
    intro h7 v hv
    unfold zb_M_threadNamed_52
    refine zq_ite (fun c => ?_) fun c => ?_
    · have hv := hv.resolve_left c
      refine e116 σ v h t0 ⟨hv.1, ?_⟩
      have s1 := z_4l (n := 0) lt
      have v1 : v.toInt < 4 := Int32.lt_iff_toInt_lt.mp hv.2
      have l0 : 0 ≤ (σ 82 19).toInt := Int32.le_iff_toInt_le.mp lt.1
      exact Int32.lt_iff_toInt_lt.mpr (by omega)
    · refine zq_bind (q_f_M_find hN h.q h7 (by decide) lt fun r8 p8 => ?_)
      refine zq_ite (fun c8 => ?_) fun c8 => ?_
      · exact e116 σ _ h t0 (sum r8 (p8.resolve_left c8))
      · have b17 : 0 ≤ 17 + σ 82 19 ∧ 17 + σ 82 19 ≤ 112 := by
          clear hQ e116 e46 sum t0 h p8 hl
          generalize σ 82 19 = L at *
          grind
        refine zq_bind (q_f_M_call hN h.q h7 b17 fun r10 j10 e10 => ?_)
        rw [e10]
        refine zq_chk ⟨lt.1, Int32.lt_of_lt_of_le l96 (by decide)⟩ fun _ => ?_
        have lb : (0 ≤ σ 82 19 + 1 ∧ σ 82 19 + 1 ≤ 96) ∧ (σ 82 19 + 1).toInt = (σ 82 19).toInt + 1 := ⟨by
          clear hQ e116 e46 sum t0 h p8 hl j10 e10
          generalize σ 82 19 = L at *
          grind, z_succ l96⟩
        generalize hR : zx_up (zx_up r10 87 (σ 82 19).toNatClampNeg (σ 82 5)) 82 19 (σ 82 19 + 1) = R
        have z82 : ∀ i, i ≠ 19 → R 82 i = σ 82 i := fun i hi => by rw [← hR, zx_up_same, zu_ne hi, zu_other (by decide), e10]
        have z19 : R 82 19 = σ 82 19 + 1 := by rw [← hR, zx_up_same, zu_eq]
        have zq' : ∀ q, q ≠ 82 → q ≠ 87 → R q = r10 q := fun q a b => by rw [← hR, zu_other a, zu_other b]
        have jR : JB σ0 R := by
          have b := h.to j10
          obtain ⟨t1, t2, t3, t4, t5, t6, t7, t8⟩ := h.tk
          refine ⟨fun q hq => (zq' q (by omega) (by omega)).trans (b.fr q hq), fun i hi => (z82 i (by omega)).trans (h.ff i hi), ⟨by rw [z82 4 (by decide)]; exact t1, by rw [z82 5 (by decide)]; exact t2, by rw [z82 6 (by decide)]; exact t3, by rw [z82 5 (by decide), z82 6 (by decide)]; exact t4, by rw [z82 7 (by decide), z82 6 (by decide)]; exact t5, by rw [z82 7 (by decide), z82 6 (by decide)]; exact t6, by rw [z82 7 (by decide), z82 8 (by decide)]; exact t7, by rw [zq' 86 (by decide) (by decide)]; exact b.tk.n6⟩, by rw [z82 5 (by decide)]; exact h.mo, by rw [z82 9 (by decide)]; exact h.fa, by rw [z82 18 (by decide)]; exact h.lc, by rw [z82 15 (by decide)]; exact h.nf, by rw [z82 16 (by decide)]; exact h.nl, by rw [z82 17 (by decide)]; exact h.nt, by rw [z19]; exact lb.1, by rw [zq' 90 (by decide) (by decide)]; exact b.st, by rw [z82 39 (by decide)]; exact h.th, by rw [z82 46 (by decide)]; exact h.dp, by rw [z82 25 (by decide)]; exact h.ns⟩
        refine e116 R _ jR ⟨fun q a b c d => (zq' q a d).trans (j10.fr q a b c), fun i hi => z82 i (by omega), by rw [z82 5 (by decide)]; exact Int32.le_refl _, by rw [z82 9 (by decide)]; exact id, by rw [z19, lb.2]; omega⟩ ?_
        rw [z19]
        have l0 : 0 ≤ (σ 82 19).toInt := Int32.le_iff_toInt_le.mp lt.1
        have l1 : (σ 82 19).toInt ≤ 96 := Int32.le_iff_toInt_le.mp lt.2
        have k4 : (4 : Int32).toInt = 4 := rfl
        have s1 := z_4l (n := 0) lt
        have s2 := z_4l (n := 0) lb.1
        exact ⟨Int32.le_iff_toInt_le.mpr (by rw [s1]; show (0 : Int) ≤ _; omega), Int32.lt_iff_toInt_lt.mpr (by rw [s1, s2, lb.2]; omega)⟩
  have e25 : ∀ v, (v = -1 ∨ (0 ≤ v ∧ v < 4)) → zq (zb_M_threadNamed_25 N σ v) Q := by
    intro v hv
    unfold zb_M_threadNamed_25
    refine zq_ite (fun _ => e46) fun c7 => ?_
    have h7 := Decidable.not_not.mp c7
    refine zq_ite (fun _ => e52 h7 v hv) fun _ => zq_bind (q_f_M_isTold hN h.q h7 fun r12 => zq_ite (fun _ => e52 h7 v hv) fun _ => e46)
  refine zq_ite (fun _ => e25 _ (Or.inl rfl)) fun c7 => ?_
  refine zq_bind (q_f_M_threadHere hN h.q (Decidable.not_not.mp c7) fun r14 p14 => e25 _ ?_)
  rcases p14 with q | q
  · exact Or.inl q
  · exact Or.inr ⟨q.1, Int32.lt_of_lt_of_le q.2 h.nt.2⟩
theorem WFA.kind {ch bh ot kd kd' : Nat → Int32} {op : Int32} {bk bs bw : Nat → Int32} {S D : Nat} {pd : Option Nat} {own : Nat → Nat} {lo : List Nat} {lw : Nat → List Nat} (h : WFA ch bh ot kd op bk bs bw S D pd own lo lw) (e : ∀ s, s < S → (kd' s ≠ 13 → kd s ≠ 13) ∧ ((kd' s = 5 ∨ kd' s = 6) → (kd s = 5 ∨ kd s = 6))) : WFA ch bh ot kd' op bk bs bw S D pd own lo lw := by
  obtain ⟨a, a1, b, b1, c, d, e', p, f, g⟩ := h
  exact ⟨a, a1, b, b1, c, d, e', p, fun s hs hk => f s hs ((e s hs).1 hk), fun s hs hk => g s hs ((e s hs).2 hk)⟩
/-- words of the newest step alone have changed -/
def KE (σ r : zS) (k : Nat) : Prop :=
  (∀ q, q ≠ 82 → q ≠ 85 → q ≠ 86 → q ≠ 87 → q ≠ 92 → q ≠ 93 → q ≠ 98 → q ≠ 99 → q ≠ 100 → q ≠ 101 → r q = σ q) ∧
  (∀ q i, q = 92 ∨ q = 93 ∨ q = 98 ∨ q = 99 ∨ q = 100 ∨ q = 101 → i ≠ k → r q i = σ q i) ∧
  (∀ i, i = 17 ∨ i = 25 ∨ i = 37 ∨ i = 39 ∨ i = 46 → r 82 i = σ 82 i) ∧
  ((σ 82 19).toInt ≤ (r 82 19).toInt ∧ (r 82 19).toInt ≤ (σ 82 19).toInt + 1) ∧
  ((r 92 k ≠ 13 → σ 92 k ≠ 13) ∧ ((r 92 k = 5 ∨ r 92 k = 6) → (σ 92 k = 5 ∨ σ 92 k = 6)))
theorem KE.fr {σ r : zS} {k : Nat} (h : KE σ r k) : ∀ q, q ≠ 82 → q ≠ 85 → q ≠ 86 → q ≠ 87 → q ≠ 92 → q ≠ 93 → q ≠ 98 → q ≠ 99 → q ≠ 100 → q ≠ 101 → r q = σ q := h.1
theorem KE.fk {σ r : zS} {k : Nat} (h : KE σ r k) : ∀ q i, q = 92 ∨ q = 93 ∨ q = 98 ∨ q = 99 ∨ q = 100 ∨ q = 101 → i ≠ k → r q i = σ q i := h.2.1
theorem KE.ff {σ r : zS} {k : Nat} (h : KE σ r k) : ∀ i, i = 17 ∨ i = 25 ∨ i = 37 ∨ i = 39 ∨ i = 46 → r 82 i = σ 82 i := h.2.2.1
theorem KE.la {σ r : zS} {k : Nat} (h : KE σ r k) : (σ 82 19).toInt ≤ (r 82 19).toInt ∧ (r 82 19).toInt ≤ (σ 82 19).toInt + 1 := h.2.2.2.1
theorem KE.kd {σ r : zS} {k : Nat} (h : KE σ r k) : (r 92 k ≠ 13 → σ 92 k ≠ 13) ∧ ((r 92 k = 5 ∨ r 92 k = 6) → (σ 92 k = 5 ∨ σ 92 k = 6)) := h.2.2.2.2
theorem KE.ps {σ r : zS} {k : Nat} (e : KE σ r k) (h : PS σ (some k)) (hk : tb σ ≤ k) (hL : 0 ≤ σ 82 19 ∧ σ 82 19 ≤ 96) (hL' : 0 ≤ r 82 19 ∧ r 82 19 ≤ 96) (st : ∀ t, 0 ≤ σ 90 t ∧ σ 90 t ≤ 24) (c : SC r k (r 82 19)) : PS r none := by
  obtain ⟨a, b, d, l, g, i⟩ := h
  have F : ∀ q, q = 90 ∨ q = 91 ∨ q = 94 ∨ q = 95 ∨ q = 103 ∨ q = 104 → r q = σ q := fun q hq => e.fr q (by omega) (by omega) (by omega) (by omega) (by omega) (by omega) (by omega) (by omega) (by omega) (by omega)
  have e1 : tb r = tb σ := by unfold tb; rw [e.ff 39 (by simp)]
  have e2 : tS r = tS σ := by unfold tS; rw [e.ff 39 (by simp), F 90 (by simp)]
  have e3 : tD r = tD σ := by unfold tD; rw [e.ff 46 (by simp)]
  refine ⟨by rw [e.ff 17 (by simp), e.ff 39 (by simp)]; exact a, ?_, ?_, ?_, by rw [e.ff 25 (by simp), e.ff 17 (by simp), F 91 (by simp)]; exact g, ?_⟩
  · rw [e.ff 39 (by simp), F 90 (by simp)]
    intro t s h1 h2 _
    by_cases q : 24 * t + s = k
    · rw [q]; exact c
    · exact (b t s h1 h2 (fun w => q (Option.some.inj w).symm)).of (fun p hp => e.fk p _ hp q) ⟨Int32.le_iff_toInt_le.mpr e.la.1, hL.1, Int32.le_trans hL'.2 (by decide)⟩
  · rw [e.ff 39 (by simp), F 90 (by simp), F 94 (by simp), F 95 (by simp)]
    intro t s h1 h2
    have lw : 24 * t + s < tb σ := by
      have := z_t24 t st
      unfold tb
      omega
    rw [e.fk 92 _ (by simp) (by omega)]
    exact d t s h1 h2
  · simp only [reduceCtorEq, if_false] at l
    simp only [if_true]
    rw [e1, e2]
    have := e.la
    omega
  · rw [e1, e2, e3, F 103 (by simp), F 104 (by simp)]
    intro d' hd hk'
    obtain ⟨s, s1, s2, s3, s4, s5⟩ := i d' hd hk'
    have n : tb σ + s ≠ k := fun q => s5 (by rw [q])
    exact ⟨s, s1, s2, by rw [e.fk 93 _ (by simp) n]; exact s3, by rw [e.fk 93 _ (by simp) n]; exact s4, by simp⟩
theorem KE.wf {σ r : zS} {k : Nat} {pd : Option Nat} (e : KE σ r k) (h : WFS σ pd) : WFS r pd := by
  obtain ⟨own, lo, lw, w⟩ := h
  refine ⟨own, lo, lw, ?_⟩
  have F : ∀ q, q = 90 ∨ q = 94 ∨ q = 95 ∨ q = 102 ∨ q = 103 ∨ q = 104 ∨ q = 105 → r q = σ q := fun q hq => e.fr q (by omega) (by omega) (by omega) (by omega) (by omega) (by omega) (by omega) (by omega) (by omega) (by omega)
  have e1 : tb r = tb σ := by unfold tb; rw [e.ff 39 (by simp)]
  have e2 : tS r = tS σ := by unfold tS; rw [e.ff 39 (by simp), F 90 (by simp)]
  have e3 : tD r = tD σ := by unfold tD; rw [e.ff 46 (by simp)]
  unfold WFG at w ⊢
  rw [e1, e2, e3, F 94 (by simp), F 95 (by simp), F 102 (by simp), F 103 (by simp), F 104 (by simp), F 105 (by simp), e.ff 37 (by simp)]
  refine w.kind (fun s hs => ?_)
  by_cases q : tb σ + s = k
  · rw [q]; exact e.kd
  · rw [e.fk 92 _ (by simp) q]; exact ⟨id, id⟩
theorem KE.jq {σ r : zS} {k : Nat} (j : JQ σ r) : KE σ r k := ⟨fun q a b c _ _ _ _ _ _ _ => j.fr q a b c, fun q i hq _ => by rw [j.fr q (by omega) (by omega) (by omega)], fun i hi => j.ff i (by omega), by rw [j.ff 19 (by omega)]; omega, by rw [j.fr 92 (by decide) (by decide) (by decide)]; exact ⟨id, id⟩⟩
theorem KE.tn {σ r : zS} {k : Nat} (j : TN σ r) : KE σ r k := ⟨fun q a b c d _ _ _ _ _ _ => j.fr q a b c d, fun q i hq _ => by rw [j.fr q (by omega) (by omega) (by omega) (by omega)], fun i hi => j.ff i (by omega), j.la, by rw [j.fr 92 (by decide) (by decide) (by decide) (by decide)]; exact ⟨id, id⟩⟩
/-- one of the newest step's words -/
theorem KE.up {σ r : zS} {k : Nat} {q : Nat} {v : Int32} (e : KE σ r k) (hq : q = 93 ∨ q = 98 ∨ q = 99 ∨ q = 100 ∨ q = 101) : KE σ (zx_up r q k v) k :=
  ⟨fun p a b c d x f g i j l => by rw [zu_other (by omega)]; exact e.fr p a b c d x f g i j l, fun p i hp hi => by
    by_cases w : p = q
    · rw [w, zx_up_same, zu_ne hi]; rw [← w]; exact e.fk p i hp hi
    · rw [zu_other w]; exact e.fk p i hp hi, fun i hi => by rw [zu_other (by omega)]; exact e.ff i hi, by rw [zu_other (by omega)]; exact e.la, by rw [zu_other (by omega)]; exact e.kd⟩
theorem KE.up92 {σ r : zS} {k : Nat} {v : Int32} (e : KE σ r k) (hv : v ≠ 13 ∧ v ≠ 5 ∧ v ≠ 6) (h : r 92 k ≠ 13) : KE σ (zx_up r 92 k v) k :=
  ⟨fun p a b c d x f g i j l => by rw [zu_other (by omega)]; exact e.fr p a b c d x f g i j l, fun p i hp hi => by
    by_cases w : p = 92
    · rw [w, zx_up_same, zu_ne hi]; exact e.fk 92 i (by simp) hi
    · rw [zu_other w]; exact e.fk p i hp hi, fun i hi => by rw [zu_other (by omega)]; exact e.ff i hi, by rw [zu_other (by omega)]; exact e.la, by
      rw [zx_up_same, zu_eq]
      exact ⟨fun _ => e.kd.1 h, fun q => absurd q (fun q => q.elim hv.2.1 hv.2.2)⟩⟩
theorem KE.trans {σ r u : zS} {k : Nat} (e : KE σ r k) (f : KE r u k) (hl : (u 82 19).toInt ≤ (σ 82 19).toInt + 1) : KE σ u k :=
  ⟨fun p a b c d x y g i j l => (f.fr p a b c d x y g i j l).trans (e.fr p a b c d x y g i j l), fun p i hp hi => (f.fk p i hp hi).trans (e.fk p i hp hi), fun i hi => (f.ff i hi).trans (e.ff i hi), ⟨Int.le_trans e.la.1 f.la.1, hl⟩, fun q => e.kd.1 (f.kd.1 q), fun q => e.kd.2 (f.kd.2 q)⟩
/-! INSIDE A STATEMENT -/
def MS (σ0 σ A ρ : zS) (k : Nat) : Prop :=
  (JB σ0 ρ) ∧
  (ρ 82 9 = 0 → KE A ρ k ∧ A 82 9 = 0) ∧
  (ρ 82 9 = 0 → σ 82 5 < ρ 82 5)
theorem MS.b {σ0 σ A ρ : zS} {k : Nat} (h : MS σ0 σ A ρ k) : JB σ0 ρ := h.1
theorem MS.e {σ0 σ A ρ : zS} {k : Nat} (h : MS σ0 σ A ρ k) : ρ 82 9 = 0 → KE A ρ k ∧ A 82 9 = 0 := h.2.1
theorem MS.g {σ0 σ A ρ : zS} {k : Nat} (h : MS σ0 σ A ρ k) : ρ 82 9 = 0 → σ 82 5 < ρ 82 5 := h.2.2
theorem MS.jq {σ0 σ A ρ r : zS} {k : Nat} (m : MS σ0 σ A ρ k) (j : JQ ρ r) : MS σ0 σ A r k := by
  refine ⟨m.b.to j, fun q => ?_, fun q => ?_⟩
  · obtain ⟨e1, e2⟩ := m.e (Decidable.not_not.mp (fun w => j.fa w q))
    exact ⟨e1.trans (KE.jq j) (by rw [j.ff 19 (by omega)]; exact e1.la.2), e2⟩
  · exact Int32.lt_of_lt_of_le (m.g (Decidable.not_not.mp (fun w => j.fa w q))) j.mo
theorem JB.upk {σ0 ρ : zS} {q i : Nat} {v : Int32} (h : JB σ0 ρ) (hq : 91 ≤ q) : JB σ0 (zx_up ρ q i v) :=
  h.of (fun p hp => zu_other (by omega)) (fun j _ _ _ => by rw [zu_other (by omega)]) (zu_other (by omega))
theorem MS.up {σ0 σ A ρ : zS} {k i : Nat} {q : Nat} {v : Int32} (m : MS σ0 σ A ρ k) (hq : q = 93 ∨ q = 98 ∨ q = 99 ∨ q = 100 ∨ q = 101) (hi : ρ 82 9 = 0 → i = k) : MS σ0 σ A (zx_up ρ q i v) k := by
  have e : (zx_up ρ q i v) 82 = ρ 82 := zu_other (by omega)
  refine ⟨m.b.upk (by omega), fun w => ?_, fun w => ?_⟩
  · rw [e] at w
    rw [hi w]
    exact ⟨(m.e w).1.up hq, (m.e w).2⟩
  · rw [e] at w ⊢; exact m.g w
theorem MS.up92 {σ0 σ A ρ : zS} {k i : Nat} {v : Int32} (m : MS σ0 σ A ρ k) (hv : v ≠ 13 ∧ v ≠ 5 ∧ v ≠ 6) (hi : ρ 82 9 = 0 → i = k ∧ ρ 92 k ≠ 13) : MS σ0 σ A (zx_up ρ 92 i v) k := by
  have e : (zx_up ρ 92 i v) 82 = ρ 82 := zu_other (by decide)
  refine ⟨m.b.upk (by decide), fun w => ?_, fun w => ?_⟩
  · rw [e] at w
    rw [(hi w).1]
    exact ⟨(m.e w).1.up92 hv (hi w).2, (m.e w).2⟩
  · rw [e] at w ⊢; exact m.g w
/-- the statement's words are all right: what is known at its end -/
theorem MS.fin {σ0 σ A ρ : zS} {k : Nat} {pd : Option Nat} (m : MS σ0 σ A ρ k) (hA : A 82 9 = 0 → JB σ0 A ∧ PS A (some k) ∧ WFS A pd ∧ tb A ≤ k) (c : ρ 82 9 = 0 → SC ρ k (ρ 82 19)) : JP σ0 ρ none pd := by
  refine ⟨m.b, fun w => ?_⟩
  obtain ⟨e1, e2⟩ := m.e w
  obtain ⟨a1, a2, a3, a4⟩ := hA e2
  exact ⟨e1.ps a2 a4 a1.lt m.b.lt a1.st (c w), e1.wf a3⟩
/-- behind 'addStep' and 'nextIfWell' -/
theorem q_step2 {N : Nat} (hN : zBig ≤ N) {σ0 σ : zS} {x1 x2 : Int32} {β : Type} {f : Int32 × zS → zS → Option β} {Q : β → Prop} (h : JP σ0 σ none none) (c9 : σ 82 9 = 0) (h7 : ¬ σ 82 7 = 0) (hQ : ∀ (r : Int32 × zS) (ρ : zS), (0 ≤ r.1 ∧ r.1 < 24) → MS σ0 σ r.2 ρ (tb σ + tS σ) → (ρ 82 9 = 0 → ρ 92 (tb σ + tS σ) = x1 ∧ ρ 93 (tb σ + tS σ) = x2 ∧ ρ 82 39 = σ 82 39 ∧ (24 * σ 82 39 + r.1).toNatClampNeg = tb σ + tS σ ∧ r.1.toInt = (tS σ : Int) ∧ (ρ 82 19).toInt < 96 ∧ ρ 82 19 = r.2 82 19) → (r.2 82 9 = 0 → JB σ0 r.2 ∧ PS r.2 (some (tb σ + tS σ)) ∧ WFS r.2 (if x1 = 5 ∨ x1 = 6 then some (tS σ) else none) ∧ tb r.2 ≤ tb σ + tS σ ∧ tS r.2 = tS σ + 1 ∧ tb r.2 = tb σ) → (ρ 82 39 = σ 82 39) → zq (f r ρ) Q) : zq ((zf_M_addStep N σ x1 x2).bind fun r => (zf_M_nextIfWell N r.2).bind fun ρ => f r ρ) Q := by
  refine zq_bind (q_f_M_addStep hN h.b (h.p c9).1 (h.p c9).2 c9 fun r p => ?_)
  obtain ⟨b, jb, ff, as⟩ := p
  refine zq_bind (q_f_M_nextIfWell hN jb.q fun ρ j pr same => ?_)
  have rb : r.2 82 9 = 0 → tb r.2 = tb σ := fun q => by unfold tb; rw [(as q).1.ff 39 (by decide)]
  have e39 : ρ 82 39 = σ 82 39 := by
    rw [j.ff 39 (by omega)]
    by_cases q : r.2 82 9 = 0
    · exact (as q).1.ff 39 (by decide)
    · exact (ff q).ff 39 (by decide) (by decide) (by decide)
  refine hQ r ρ b ⟨jb.to j, fun w => ?_, fun w => ?_⟩ (fun w => ?_) (fun q => ⟨jb, (as q).2.1, (as q).2.2, by rw [rb q]; omega, (as q).1.ts, rb q⟩) e39
  · have q : r.2 82 9 = 0 := Decidable.not_not.mp (fun u => j.fa u w)
    exact ⟨KE.jq j, q⟩
  · have q : r.2 82 9 = 0 := Decidable.not_not.mp (fun u => j.fa u w)
    have := pr q (by rw [(as q).1.ff 7 (by decide)]; exact h7)
    rw [(as q).1.ff 5 (by decide)] at this
    exact this
  · have q : r.2 82 9 = 0 := Decidable.not_not.mp (fun u => j.fa u w)
    have a := (as q).1
    refine ⟨by rw [j.fr 92 (by decide) (by decide) (by decide)]; exact a.kd, by rw [j.fr 93 (by decide) (by decide) (by decide)]; exact a.wh, e39, ?_, a.sv.1, ?_, j.ff 19 (by omega)⟩
    · exact (z_step (σ := σ) a.sv.1 a.sv.2 h.b.th).2
    · rw [j.ff 19 (by omega)]
      have l := (as q).2.1.la
      simp only [reduceCtorEq, if_false] at l
      have e1 : tS r.2 = tS σ + 1 := a.ts
      have t1 := z_nat h.b.th.1
      have t2 : (σ 82 39).toInt < 4 := Int32.lt_iff_toInt_lt.mp h.b.th.2
      have e2 : tb r.2 = 24 * (σ 82 39).toNatClampNeg := rb q
      have := a.sv.2
      omega
theorem q_f_M_test {N : Nat} (hN : zBig ≤ N) {σ0 σ A ρ : zS} {k : Nat} {x1 : Int32} {Q : zS → Prop} (m : MS σ0 σ A ρ k) (hx : 0 ≤ x1 ∧ x1 < 24) (hk : ρ 82 9 = 0 → (24 * ρ 82 39 + x1).toNatClampNeg = k) (hQ : ∀ r, MS σ0 σ A r k → (r 82 9 = 0 → ρ 82 9 = 0 ∧ r 92 k = ρ 92 k ∧ r 93 k = ρ 93 k ∧ r 99 k ≤ 10 ∧ r 100 k ≤ 10) → (r 82 39 = ρ 82 39) → Q r) : zq (zf_M_test N ρ x1) Q := by
  unfold zf_M_test
  refine zq_ite (fun c9 => ?_) fun c9 => hQ _ m (fun q => absurd q c9) rfl
  obtain ⟨ib, _⟩ := z_idx m.b.th hx
  have ek := hk c9
  refine zq_bind (q_f_M_value hN m.b.q fun r2 j2 p2 => ?_)
  have m2 := m.jq j2
  have e2 : ∀ q, q ≠ 82 → q ≠ 85 → q ≠ 86 → r2.2 q = ρ q := j2.fr
  refine zq_chk ib fun _ => ?_
  rw [ek]
  refine zq_ite (fun q9 => ?_) fun q9 => ?_
  · refine zq_chk ib fun _ => ?_
    have m3 : MS σ0 σ A (zx_up (zx_up r2.2 99 k r2.1) 101 k (r2.2 82 8)) k := (m2.up (q := 99) (by simp) (fun _ => rfl)).up (q := 101) (by simp) (fun _ => rfl)
    generalize hY : zx_up (zx_up r2.2 99 k r2.1) 101 k (r2.2 82 8) = Y at *
    have y82 : Y 82 = r2.2 82 := by rw [← hY, zu_other (by decide), zu_other (by decide)]
    have y99 : Y 99 k = r2.1 := by rw [← hY, zu_other (by decide), zx_up_same, zu_eq]
    have y92 : Y 92 = ρ 92 := by rw [← hY, zu_other (by decide), zu_other (by decide)]; exact e2 92 (by decide) (by decide) (by decide)
    have y93 : Y 93 = ρ 93 := by rw [← hY, zu_other (by decide), zu_other (by decide)]; exact e2 93 (by decide) (by decide) (by decide)
    have y39 : Y 82 39 = ρ 82 39 := by rw [y82]; exact j2.ff 39 (by omega)
    have e93 : zq (zb_M_test_93 N Y) Q := by
      unfold zb_M_test_93
      refine zq_bind (q_f_M_cannot fun r a b => hQ _ (m3.jq (FF.jq m3.b.q a b)) (fun q => absurd q b) ?_)
      exact (a.ff 39 (by decide) (by decide) (by decide)).trans y39
    have e98 : zq (zb_M_test_98 N Y (24 * ρ 82 39 + x1)) Q := by
      unfold zb_M_test_98
      refine zq_bind (q_f_M_next hN m3.b.q fun r9 j9 _ _ => ?_)
      have m9 := m3.jq j9
      refine zq_bind (q_f_M_value hN m9.b.q fun r10 j10 p10 => ?_)
      have m10 := m9.jq j10
      refine zq_chk ib fun _ => ?_
      rw [ek]
      refine hQ _ (m10.up (q := 100) (by simp) (fun _ => rfl)) (fun q => ?_) ?_
      · rw [zu_other (by decide)] at q
        have f : ∀ p, p ≠ 82 → p ≠ 85 → p ≠ 86 → r10.2 p = Y p := fun p a b c => (j10.fr p a b c).trans (j9.fr p a b c)
        refine ⟨c9, by rw [zu_other (by decide), f 92 (by decide) (by decide) (by decide), y92], by rw [zu_other (by decide), f 93 (by decide) (by decide) (by decide), y93], ?_, ?_⟩
        · rw [zu_other (by decide), f 99 (by decide) (by decide) (by decide), y99]; exact p2 q9
        · rw [zx_up_same, zu_eq]; exact p10 q
      · rw [zu_other (by decide)]
        exact (j10.ff 39 (by omega)).trans ((j9.ff 39 (by omega)).trans y39)
    exact zq_ite (fun _ => e93) fun _ => zq_ite (fun _ => e98) fun _ => zq_ite (fun _ => e98) fun _ => zq_ite (fun _ => e98) fun _ => zq_ite (fun _ => e98) fun _ => e93
  · refine hQ _ (m2.up (q := 99) (by simp) (fun q => absurd q q9)) (fun q => ?_) ?_
    · rw [zu_other (by decide)] at q; exact absurd q q9
    · rw [zu_other (by decide)]; exact j2.ff 39 (by omega)
theorem find_congr {N : Nat} {σ τ : zS} {x1 x2 : Int32} (e82 : τ 82 = σ 82) (e84 : τ 84 = σ 84) (e85 : τ 85 = σ 85) (e86 : τ 86 = σ 86) : zf_M_find N τ x1 x2 = zf_M_find N σ x1 x2 := by
  have h32 : ∀ (k k' : zS → Int32 → Int32 → Int32 → Option Int32) (v3 : Int32), k τ x1 x2 (v3 + 1) = k' σ x1 x2 (v3 + 1) → ∀ (n : Nat) (v4 v5 : Int32), zb_M_find_32 k N n τ x1 x2 v3 v4 v5 = zb_M_find_32 k' N n σ x1 x2 v3 v4 v5 := by
    intro k k' v3 hk n
    induction n with
    | zero => intro v4 v5; rfl
    | succ n ih =>
      intro v4 v5
      have a : ∀ v4, zb_M_find_88 k N τ x1 x2 v3 v4 = zb_M_find_88 k' N σ x1 x2 v3 v4 := fun v4 => by unfold zb_M_find_88; rw [hk]
      rw [zb_M_find_32, zb_M_find_32, e82, e84, e85, a]
      unfold zb_M_find_80
      rw [ih, ih]
  have h2 : ∀ (n : Nat) (v3 : Int32), zb_M_find_2 N n τ x1 x2 v3 = zb_M_find_2 N n σ x1 x2 v3 := by
    intro n
    induction n with
    | zero => intro v3; rfl
    | succ n ih =>
      intro v3
      rw [zb_M_find_2, zb_M_find_2, e82, e86]
      unfold zb_M_find_27
      rw [h32 _ _ v3 (ih (v3 + 1)), h32 _ _ v3 (ih (v3 + 1))]
  exact h2 N 0
theorem fieldHere_congr {N : Nat} {σ τ : zS} (e82 : τ 82 = σ 82) (e84 : τ 84 = σ 84) (e85 : τ 85 = σ 85) (e86 : τ 86 = σ 86) : zf_M_fieldHere N τ = zf_M_fieldHere N σ := by
  unfold zf_M_fieldHere
  rw [find_congr e82 e84 e85 e86, e82]
