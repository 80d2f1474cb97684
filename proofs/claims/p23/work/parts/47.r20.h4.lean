-- both answer alike
set_option maxRecDepth 2000
theorem G1.of {σ r : zS} {c2 : Nat} {len : Nat → Nat} (e : ∀ q, 6 ≤ q ∧ q ≤ 11 → r q = σ q) : G1 r c2 len = G1 σ c2 len := by
  have hT : TAK r = TAK σ := by
    funext a b c
    unfold TAK
    rw [e 7 (by decide)]
  have hH : HLD r = HLD σ := by
    funext a b
    unfold HLD
    rw [e 8 (by decide), e 11 (by decide)]
  have hN : NEA r = NEA σ := by
    funext a b c d
    exact propext (NEA.of fun q hq => e q (by omega))
  have hO : TOG r = TOG σ := by
    funext a b c
    unfold TOG DIS FIT MET
    rw [e 8 (by decide), e 11 (by decide), hN]
  have h4 : G4 r = G4 σ := by
    funext a b c d x y
    unfold G4
    rw [hT, hH, hO]
  have h3 : G3 r = G3 σ := by
    funext a b c d x
    unfold G3
    rw [hT, hH, hO, h4]
  have h2 : G2 r = G2 σ := by
    funext a b c d
    unfold G2
    rw [hT, hH, hO, h3]
  funext a
  unfold G1
  rw [hT, h2]
theorem LKS.of {σ r : zS} {c2 : Nat} {len : Nat → Nat} (h : LKS σ c2 len) (e : ∀ q, 7 ≤ q ∧ q ≤ 8 → r q = σ q) : LKS r c2 len := by
  unfold LKS TAK at *
  rw [e 7 (by decide), e 8 (by decide)]
  exact h
def JDR (σ : zS) (c2 : Nat) (len : Nat → Nat) : Prop := ¬ σ 76 5 = 0 → σ 76 4 = sm (G1 σ c2 len) 0 (24 * c2)
theorem JDR.of {σ r : zS} {c2 : Nat} {len : Nat → Nat} (h : JDR σ c2 len) (e : ∀ q, 6 ≤ q ∧ q ≤ 11 → r q = σ q) (f : r 76 = σ 76) : JDR r c2 len := by
  unfold JDR at *
  rw [f, G1.of e]
  exact h
theorem p_prepareR {N : Nat} {σ : zS} {c2 : Nat} {len : Nat → Nat} (pj : PJ σ c2 len) (e4 : σ 4 2 = Int32.ofNat c2) (lk : LKS σ c2 len) (jd : JDN σ c2 len) (jr : JDR σ c2 len) : zp (zf_Judge_prepare N σ) (fun r => (∀ q, (q < 76 ∨ 80 < q) → r q = σ q) ∧ JDN r c2 len ∧ JDR r c2 len ∧ ¬ r 76 5 = 0) := by
  unfold zf_Judge_prepare
  refine zp_ite (fun z => zp_some ⟨fun _ _ => rfl, jd, jr, z⟩) fun z => ?_
  have pj1 : PJ (zx_up σ 76 5 1) c2 len := pj.of (fun q hq => zu_other (by omega)) (by rw [zu_other (by decide)])
  refine p_prep14 pj1 (fun r f h => ?_) N 0 _ (Nat.zero_le _) (fun _ _ => rfl) (fun _ _ _ _ w => absurd w (Nat.not_lt_zero _))
  refine zp_bind (zp_mono (wl_f_Judge_listDoubts fun _ _ => rfl) fun r3 h3 => ?_)
  have f3 : ∀ q, q < 76 ∨ 80 < q → r3 q = σ q := fun q hq => by rw [h3 q (by omega), f q (by omega), zu_other (by omega)]
  have pj3 : PJ r3 c2 len := pj.of (fun q hq => f3 q (by omega)) (by rw [f3 82 (by decide)])
  have ne : ∀ {x : zS}, (∀ q, 6 ≤ q ∧ q ≤ 10 → x q = σ q) → ∀ {a b s : Nat}, NEA (zx_up σ 76 5 1) len a b s ↔ NEA x len a b s := fun {x} hx {a b s} => ((NEA.of fun q hq => zu_other (by omega)) : NEA (zx_up σ 76 5 1) len a b s ↔ NEA σ len a b s).trans (NEA.of hx).symm
  have nr3 : ∀ a b, a < c2 → b < 4 → ∀ s, s < 24 → (bit (r3 77 (4 * a + b)) s ↔ NEA r3 len a b s) := fun a b ha hb s hs => by
    rw [h3 77 (by decide), h a b ha hb s hs]
    exact ne fun q hq => f3 q (by omega)
  refine zp_bind (zp_mono (p_countRings pj3 (by rw [f3 4 (by decide)]; exact e4) (lk.of fun q hq => f3 q (by omega)) nr3) fun r4 h4 => zp_some ⟨fun q hq => ?_, fun _ a b ha hb s hs => ?_, fun _ => ?_, ?_⟩)
  · rw [zu_other (by omega), h4.2 q (by omega), f3 q hq]
  · rw [zu_other (by decide), h4.2 77 (by decide), h3 77 (by decide), h a b ha hb s hs]
    exact ne fun q hq => by rw [zu_other (by omega), h4.2 q (by omega), f3 q (by omega)]
  · have eG : G1 (zx_up r4.2 76 4 r4.1) c2 len = G1 r3 c2 len := G1.of fun q hq => by rw [zu_other (by omega), h4.2 q (by omega)]
    rw [eG, zx_up_same, zu_eq, h4.1, rings_same pj3 (lk.of fun q hq => f3 q (by omega))]
  · rw [zx_up_same, zu_ne (by decide), h4.2 76 (by decide), h3 76 (by decide), f 76 (by decide), zx_up_same, zu_eq]
    decide
