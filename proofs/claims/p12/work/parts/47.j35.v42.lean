-- both answer alike
set_option maxRecDepth 2000
def FIN (r : zS × zT) (s : Int32 × zS) : Prop := (∃ p, XFl r.1 p ∧ s.1 = -1000 - p ∧ s.2 82 21 = 0) ∨ (r.1 17 6 = 0 ∧ s.1 = r.1 4 4 ∧ s.2 82 21 = 1 ∧ PRW r.1 s.2)
theorem p_M_allSteps {N nt : Nat} {len : Nat → Nat} {μ : zS} (h17 : μ 82 17 = Int32.ofNat nt) (t4 : nt ≤ 4) (h : ∀ t, t < nt → len t ≤ 24 ∧ μ 90 t = Int32.ofNat (len t)) : zp (zf_M_allSteps N μ) (fun r => r = Int32.ofNat (sumL len nt)) := by
  unfold zf_M_allSteps
  have go : ∀ (n t : Nat), t ≤ nt → zp (zb_M_allSteps_4 N n μ (Int32.ofNat (sumL len t)) (Int32.ofNat t)) (fun r => r = Int32.ofNat (sumL len nt)) := by
    intro n
    induction n with
    | zero => intro _ _; exact zp_none
    | succ n ih =>
      intro t ht
      rw [zb_M_allSteps_4, h17]
      refine zp_ite (fun q => zp_some ?_) fun q => zp_chk fun _ => ?_
      · have := (zo_le (by omega) (by omega)).mp q
        rw [show t = nt by omega]
      · have lt : t < nt := by
          rw [zo_le (by omega) (by omega)] at q
          omega
        have b := sumL_le (len := len) t (fun j hj => (h j (by omega)).1)
        have l := (h t lt).1
        rw [zo_n (by omega), (h t lt).2, zo_plus rfl (by omega), zo_1 (by omega)]
        exact ih (t + 1) (by omega)
  exact go N 0 (Nat.zero_le _)
theorem p_F_244 {N : Nat} {μ : zS} {p : Int32} (h : MFl μ p) : zp (zb_M_read_244 N μ) (fun s => s.1 = -1000 - p ∧ s.2 82 21 = 0) := by
  unfold zb_M_read_244 zb_M_read_255 zb_M_read_268
  refine zp_ite (fun _ => zp_ite (fun _ => zp_chk fun _ => zp_ite (fun q => absurd q h.1) fun _ => zp_some ⟨?_, ?_⟩) fun q => absurd (Classical.not_not.mp q) h.1) fun q => absurd (Classical.not_not.mp q) h.1
  · rw [h.2]
  · dsimp only
    rw [zx_up_same, zu_ne (by decide), zx_up_same, zu_eq]
theorem p_F_226 {N : Nat} {μ : zS} {p : Int32} (h : MFl μ p) : zp (zb_M_read_226 N μ) (fun s => s.1 = -1000 - p ∧ s.2 82 21 = 0) := by
  unfold zb_M_read_226
  exact zp_ite (fun _ => p_F_244 h) fun q => absurd (Classical.not_not.mp q) h.1
theorem p_F_204 {N m : Nat} {μ : zS} {p : Int32} (h : MFl μ p) : zp (zb_M_read_204 N m μ) (fun s => s.1 = -1000 - p ∧ s.2 82 21 = 0) := by
  cases m with
  | zero => exact zp_none
  | succ m =>
    rw [zb_M_read_204]
    exact zp_ite (fun _ => p_F_226 h) fun q => absurd (Classical.not_not.mp q) h.1
theorem p_F_105 {N m : Nat} {μ : zS} {p : Int32} (h : MFl μ p) : zp (zb_M_read_105 N m μ) (fun s => s.1 = -1000 - p ∧ s.2 82 21 = 0) := by
  cases m with
  | zero => exact zp_none
  | succ m =>
    rw [zb_M_read_105]
    exact zp_ite (fun _ => p_F_204 h) fun q => absurd (Classical.not_not.mp q) h.1
theorem p_XF_42 {N n : Nat} {ρ : zS} {τ : zT} {v p : Int32} (h : XFl ρ p) : zp (zb_Reader_readText_42 N n ρ τ v) (fun r => XFl r.1 p) := by
  have A : zp (zb_Reader_readText_93 N ρ τ) (fun r => XFl r.1 p) := by
    unfold zb_Reader_readText_93
    cases N with
    | zero => exact zp_none
    | succ N =>
      rw [zb_Reader_readText_95]
      exact zp_ite (fun _ => zp_some h) fun _ => zp_ite (fun _ => zp_some h) fun q => absurd (Classical.not_not.mp q) h.1
  cases n with
  | zero => exact zp_none
  | succ n =>
    rw [zb_Reader_readText_42]
    exact zp_ite (fun _ => A) fun _ => zp_ite (fun _ => A) fun q => absurd (Classical.not_not.mp q) h.1
theorem p_end {T : TS} {a N N' : Nat} {c : Nat → Nat} {ws : Nat → Nat → Int64} {len : Nat → Nat} {ρ : zS} {τ : zT} {μ : zS} (rt : RT T a c ws len ρ τ μ) : zp (zb_Reader_readText_93 N ρ τ) (fun r => zp (zb_M_read_244 N' μ) (fun s => FIN r s)) := by
  obtain ⟨sx, sm, ns, nm, pk, la, wr⟩ := rt
  obtain ⟨nz, wz, SL, h1, h2, h3, h4, h5⟩ := la
  have c24 : c 2 ≤ 4 := (ns.1 2 (by decide)).1
  have h9 := sm.2.2.2
  refine zp_mono (zp_and (p_X_findThreads ns pk sx.2) (p_X_findThreads1 ns pk sx.2)) ?_
  rintro r ⟨⟨-, hr⟩, x8⟩
  unfold zb_M_read_244
  refine zp_ite (fun q => absurd h9 q) fun _ => zp_bind (zp_mono (zp_and (p_M_findLaters (N := N') (wt := ws 2) h9 h2 h1 (nm 2 (by decide)).2.1 c24 (fun t ht => (nm 2 (by decide)).2.2 t ht) (fun l hl => (h3 l hl).1)) (p_M_findLaters1 (N := N') (c := c) (len := len) (wt := ws 2) h9 h2 h1 (nm 2 (by decide)).2.1 c24 (fun t ht => ⟨(pk.1 t ht).1, (pk.1 t ht).2.2⟩) (fun t ht => (nm 2 (by decide)).2.2 t ht) (fun l hl => (h3 l hl).1))) fun s hs => ?_)
  obtain ⟨hs, m93⟩ := hs
  have word : ∀ q, SJ c len μ q → (∀ l, l < nz → ∃ k, k < c 2 ∧ ws 2 k = wz l) → ∃ k, k < c 2 ∧ ws 2 k = τ 23 q := by
    intro q sj all
    rcases h5 q sj with ⟨k, k1, _, k3⟩ | ⟨l, l1, _, l3, _⟩
    · exact ⟨k, k1, k3⟩
    · obtain ⟨k, k1, k2⟩ := all l l1
      exact ⟨k, k1, k2.trans l3⟩
  rcases hr with ⟨fr, res⟩ | ⟨q0, sj0, un0, les0, fl0⟩
  · rcases hs with ⟨fs, all⟩ | ⟨l0, l1, l2, l3, fls⟩
    · have e82 := fs 82 (by decide)
      have e9 : s 82 9 = 0 := by rw [e82]; exact h9
      unfold zb_M_read_255 zb_M_read_268
      have m17 : (zx_up (zx_up s 82 21 1) 82 12 (s 82 10)) 82 17 = Int32.ofNat (c 2) := by rw [zx_up_same, zu_ne (by decide), zx_up_same, zu_ne (by decide), e82]; exact (nm 2 (by decide)).2.1
      have m90 : (zx_up (zx_up s 82 21 1) 82 12 (s 82 10)) 90 = μ 90 := by rw [zu_other (by decide), zu_other (by decide), fs 90 (by decide)]
      refine zp_ite (fun q => absurd e9 q) fun _ => zp_chk fun _ => zp_ite (fun _ => zp_bind (zp_mono (p_M_allSteps (len := len) m17 c24 fun t ht => ⟨(pk.1 t ht).1, by rw [m90]; exact (pk.1 t ht).2.2⟩) fun u hu => zp_some (Or.inr ⟨?_, ?_, ?_, c, len, c24, fun s' hs' => ⟨?_, ?_⟩, fun t ht => ?_, fun t a b => ?_, ?_, ?_, fun t z ht hz => ?_, fun z hz => Nat.le_trans (ns.1 z hz).1 (cap_le z), fun t z ht hz => ?_⟩))) fun q => absurd e9 q
      · rw [fr 17 (by decide) (by decide)]; exact sx.2
      · dsimp only
        rw [hu, fr 4 (by decide) (by decide)]; exact pk.2.2.1.symm
      · dsimp only
        rw [zx_up_same, zu_ne (by decide), zx_up_same, zu_eq]
      · rw [fr 4 (by decide) (by decide)]; exact (ns.1 s' hs').2
      · dsimp only
        rw [zx_up_same, zu_ne (by omega), zx_up_same, zu_ne (by omega), e82]; exact (nm s' hs').2.1
      · dsimp only
        rw [fr 5 (by decide) (by decide), m90]; exact pk.1 t ht
      · rw [fr 5 (by decide) (by decide)]; exact pk.2.1 t a b
      · rw [fr 4 (by decide) (by decide)]; exact pk.2.2.1
      · dsimp only
        rw [fr 4 (by decide) (by decide), zx_up_same, zu_ne (by decide), zx_up_same, zu_ne (by decide), e82]; exact pk.2.2.2.1.1
      · have u : ∀ q, q ≠ 82 → (zx_up (zx_up s 82 21 1) 82 12 (s 82 10)) q = s q := fun q hq => by rw [zu_other hq, zu_other hq]
        have l24 := (pk.1 t ht).1
        obtain ⟨⟨a1, a2, a3, a4, a5⟩, a6, _⟩ := wr t ht z hz
        have a7 := pk.2.2.2.2.2.2 t z ht hz
        obtain ⟨g1, g2⟩ := x8 (by rw [fr 17 (by decide) (by decide)]; exact sx.2)
        obtain ⟨k1, k2⟩ := m93 e9
        dsimp only
        unfold ROW
        rw [u 92 (by decide), u 93 (by decide), u 94 (by decide), u 95 (by decide), u 96 (by decide), u 97 (by decide), fs 92 (by decide), fs 94 (by decide), fs 95 (by decide), fs 96 (by decide), fs 97 (by decide), fr 7 (by decide) (by decide), fr 9 (by decide) (by decide), fr 10 (by decide) (by decide), fr 11 (by decide) (by decide), fr 12 (by decide) (by decide)]
        have sb : (named (μ 92 (24 * t + z)) → r.1 8 (24 * t + z) = s 93 (24 * t + z)) ∧ (¬ named (μ 92 (24 * t + z)) → r.1 8 (24 * t + z) = -1) := by
          by_cases sj : SJ c len μ (24 * t + z)
          · refine ⟨fun _ => ?_, fun n => absurd ?_ n⟩
            · obtain ⟨k, ka, kb, kc⟩ := g1 _ sj
              rcases h5 _ sj with ⟨k', kd, ke, kf⟩ | ⟨l, la, lb, lc, _⟩
              · have ek : k = k' := (ns.inj (by decide) ka (by decide) kd (kb.trans kf.symm)).2
                rw [kc, k2 _ (Or.inr ⟨k', by omega, ke⟩), ke, ek]
              · obtain ⟨k', kd, ke, kf⟩ := k1 _ l sj la lb
                have ek : k = k' := (ns.inj (by decide) ka (by decide) kd (kb.trans (ke.trans lc).symm)).2
                rw [kc, kf, ek]
            · have := sj.2
              unfold named
              rcases this with e | e
              · exact Or.inr (Or.inr (Or.inr (Or.inr (Or.inr (Or.inr (Or.inr (Or.inl e)))))))
              · exact Or.inr (Or.inr (Or.inr (Or.inr (Or.inr (Or.inr (Or.inr (Or.inr e)))))))
          · have nk : ¬ (μ 92 (24 * t + z) = 10 ∨ μ 92 (24 * t + z) = 11) := fun q => sj ⟨⟨t, z, ht, hz, rfl⟩, q⟩
            rw [g2 _ sj, k2 _ (Or.inl sj)]
            refine ⟨fun n => a5.1 ?_, fun n => a5.2 fun q => n ?_⟩
            · unfold named at n
              rcases n with e | e | e | e | e | e | e | e | e
              · exact Or.inl e
              · exact Or.inr (Or.inl e)
              · exact Or.inr (Or.inr (Or.inl e))
              · exact Or.inr (Or.inr (Or.inr (Or.inl e)))
              · exact Or.inr (Or.inr (Or.inr (Or.inr (Or.inl e))))
              · exact Or.inr (Or.inr (Or.inr (Or.inr (Or.inr (Or.inl e)))))
              · exact Or.inr (Or.inr (Or.inr (Or.inr (Or.inr (Or.inr e)))))
              · exact absurd (Or.inl e) nk
              · exact absurd (Or.inr e) nk
            · unfold named
              rcases q with e | e | e | e | e | e | e
              · exact Or.inl e
              · exact Or.inr (Or.inl e)
              · exact Or.inr (Or.inr (Or.inl e))
              · exact Or.inr (Or.inr (Or.inr (Or.inl e)))
              · exact Or.inr (Or.inr (Or.inr (Or.inr (Or.inl e))))
              · exact Or.inr (Or.inr (Or.inr (Or.inr (Or.inr (Or.inl e)))))
              · exact Or.inr (Or.inr (Or.inr (Or.inr (Or.inr (Or.inr (Or.inl e))))))
        exact ⟨a7, sb.1, sb.2, a6, fun _ => a3, a4, a1, a2⟩
      · dsimp only
        rw [zu_other (by decide), zu_other (by decide), fs 92 (by decide), fr 9 (by decide) (by decide)]
        exact (wr t ht z hz).2.2
    · exfalso
      obtain ⟨b1, b2, b3, b4⟩ := h3 l0 l1
      obtain ⟨k, k1, k2⟩ := res _ b2
      exact l2 k k1 (k2.trans b3)
  · rcases hs with ⟨fs, all⟩ | ⟨l0, l1, l2, l3, fls⟩
    · exfalso
      obtain ⟨k, k1, k2⟩ := word q0 sj0 all
      exact un0 k k1 k2
    · obtain ⟨b1, b2, b3, b4⟩ := h3 l0 l1
      have ge : ¬ SL l0 < q0 := by
        intro lt
        obtain ⟨k, k1, k2⟩ := les0 _ b2 lt
        exact l2 k k1 (k2.trans b3)
      have le : SL l0 ≤ q0 := by
        rcases h5 q0 sj0 with ⟨k, k1, _, k3⟩ | ⟨l, l1', _, l3', l4'⟩
        · exact absurd k3 (un0 k k1)
        · have nl : ¬ l < l0 := by
            intro x
            obtain ⟨k, k1, k2⟩ := l3 l x
            exact un0 k k1 (k2.trans l3')
          by_cases e : l = l0
          · rw [← e]; exact l4'
          · exact Nat.le_of_lt (Nat.lt_of_lt_of_le (h4 l0 l (by omega) l1') l4')
      have eq : SL l0 = q0 := by omega
      rw [← eq, b4] at fl0
      have t : zp (zb_M_read_255 N' s) (fun s => s.1 = -1000 - μ 87 l0 ∧ s.2 82 21 = 0) := by
        have := p_F_244 (N := N') fls
        unfold zb_M_read_244 at this
        rw [if_pos fls.1] at this
        exact this
      exact zp_mono t fun u hu => Or.inl ⟨_, fl0, hu⟩
