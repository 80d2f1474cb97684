-- both answer alike
set_option maxRecDepth 2000
theorem WVX.step {c len : Nat → Nat} {d t L : Nat} {k : Int32} {ρ μ r ν : zS} (h : WVX c len d ρ μ) (hd : 0 < d) (h12 : ρ 29 12 = μ 82 41) (ch : CHX L d μ) (ht : t = c 2 - 1) (hL : L = len t) (hl : L < 24) (x1 : CEx t L k ρ r) (m1 : MEx t L k μ ν) (sb : SBJ k (r 8 (24 * t + L)) (ν 93 (24 * t + L))) (len24 : ∀ t', t' < c 2 → len t' ≤ 24) : WVX c (lUp len t (L + 1)) d r ν := by
  obtain ⟨w1, w2⟩ := h
  obtain ⟨wc, mk, wy, hh⟩ := w2 hd
  obtain ⟨a1, a2, a3, a4, a5⟩ := x1.2.2.2.2.2.2.2.2.2
  obtain ⟨b2, b3, b4, b5, b6⟩ := m1.2.2.2.2.2.2.2.2
  obtain ⟨⟨lo, clo, llo⟩, cbl⟩ := ch
  obtain ⟨v94, v95, vop⟩ := b4 lo clo llo
  obtain ⟨e9, e10, e299, e2910⟩ := a3
  have k92 : ν 92 (24 * t + L) = k := m1.2.2.2.2.1
  have o92 : ∀ j, j ≠ 24 * t + L → ν 92 j = μ 92 j ∧ ν 93 j = μ 93 j := m1.2.2.2.2.2.1
  have o103 : ν 103 = μ 103 := m1.1.2
  have old : ∀ q, q ≠ 24 * t + L → (ν 95 q = μ 95 q) → (r 10 q = ρ 10 q) → RQ ρ μ q → RQ r ν q := fun q hq f g hr => hr.of ⟨(a2 q hq).1, g, (a2 q hq).2.1, (a2 q hq).2.2⟩ ⟨(o92 q hq).1, (o92 q hq).2, f, (b3 q hq).1, (b3 q hq).2⟩
  subst hL
  refine ⟨fun t' ht' => ?_, fun _ => ?_⟩
  ·
    have tt : t' < t := by omega
    rw [lUp_ne (by omega)]
    intro s hs
    have l24 := len24 t' (by omega)
    obtain ⟨rq, r9, r13⟩ := w1 t' ht' s hs
    have ne : 24 * t' + s ≠ 24 * t + len t := by omega
    have nr : ¬ 24 * t ≤ 24 * t' + s := by omega
    refine ⟨old _ ne ((v95.2 _ ne).2 fun q => nr q.1) ((e10.2 _ ne).2 fun q => nr q.1) rq, ?_, ?_⟩
    · rw [(e9.2 _ ne).2 fun q => nr q.1, (v94.2 _ ne).2 fun q => nr q.1]
      exact r9
    · rw [(e9.2 _ ne).2 fun q => nr q.1, (o92 _ ne).1]
      exact r13
  · rw [← ht, lUp_at]
    have set := wy.1 lo clo
    rw [← ht] at set mk wc wy
    refine ⟨fun s hs => ?_, fun i hi => ?_, ⟨fun lo' clo' => ?_, fun i hi h4 l cl => ?_⟩, by rw [a4, b5]; exact hh⟩
    · by_cases e : s = len t
      · subst e
        refine ⟨⟨by rw [a1.1, b2.1]; exact hh, by rw [a1.2, b2.2]; exact h12, by rw [e10.1, v95.1], fun _ => e10.1, by rw [k92]; exact sb⟩, fun _ => by rw [e9.1, v94.1]⟩
      · have hs' : s < len t := by omega
        have ne : 24 * t + s ≠ 24 * t + len t := by omega
        have sub : 24 * t + s - 24 * t = s := by omega
        obtain ⟨rq, r9⟩ := wc s hs'
        obtain ⟨s1, s2, s3, s4⟩ := set s (by omega)
        have g10 : r 10 (24 * t + s) = ν 95 (24 * t + s) ∧ (¬ (μ 92 (24 * t + s) = 5 ∨ μ 92 (24 * t + s) = 6) → r 10 (24 * t + s) = -1) := by
          by_cases b : bit (ρ 29 10) s
          · have m := s2.mp b
            refine ⟨?_, fun n => absurd (s4 b).2 n⟩
            rw [(e10.2 _ ne).1 ⟨by omega, by omega, by rw [sub]; exact b⟩, (v95.2 _ ne).1 ⟨by omega, by rw [sub]; exact m⟩]
          · have m : 2 * s + 1 ∉ lo := fun w => b (s2.mpr w)
            have e1 : r 10 (24 * t + s) = ρ 10 (24 * t + s) := (e10.2 _ ne).2 fun q => b (by have := q.2.2; rw [sub] at this; exact this)
            have e2 : ν 95 (24 * t + s) = μ 95 (24 * t + s) := (v95.2 _ ne).2 fun q => m (by have := q.2; rw [sub] at this; exact this)
            rw [e1, e2]
            exact ⟨rq.2.2.1, rq.2.2.2.1⟩
        refine ⟨⟨by rw [(a2 _ ne).2.1, (b3 _ ne).1]; exact rq.1, by rw [(a2 _ ne).2.2, (b3 _ ne).2]; exact rq.2.1, g10.1, by rw [(o92 _ ne).1]; exact g10.2, by rw [(o92 _ ne).1, (o92 _ ne).2, (a2 _ ne).1]; exact rq.2.2.2.2⟩, fun n13 => ?_⟩
        rw [(o92 _ ne).1] at n13
        by_cases b : bit (ρ 29 9) s
        · have m := s1.mp ⟨b, n13⟩
          rw [(e9.2 _ ne).1 ⟨by omega, by omega, by rw [sub]; exact b⟩, (v94.2 _ ne).1 ⟨by omega, by rw [sub]; exact m⟩]
        · have m : 2 * s + 0 ∉ lo := fun w => b (s1.mpr w).1
          rw [(e9.2 _ ne).2 fun q => b (by have := q.2.2; rw [sub] at this; exact this), (v94.2 _ ne).2 fun q => m (by have := q.2; rw [sub] at this; exact this)]
          exact r9 n13
    · obtain ⟨k0, k1, k2⟩ := mk i hi
      rw [o103, b6 104 (by decide), b6 106 (by decide), a5 31 (by decide), a5 34 (by decide)]
      refine ⟨k0, fun q => ?_, fun q => ?_⟩
      · obtain ⟨s, z1, z2, z3, z4⟩ := k1 q
        exact ⟨s, by omega, z2, z3, by rw [(o92 _ (by omega)).1]; exact z4⟩
      · obtain ⟨s, z1, z2, z3, z4, z5⟩ := k2 q
        exact ⟨s, by omega, z2, by rw [(o92 _ (by omega)).2]; exact z3, by rw [(b3 _ (by omega)).1]; exact z4, z5⟩
    ·
      have cn : Ch (ν 102) (if ν 92 (24 * t + len t) = 13 then [] else [2 * len t]) (ν 82 37) := by
        rcases vop with ⟨e, z1, z2⟩ | ⟨e, z1, z2, z3⟩
        · rw [if_pos (k92.trans e), z1]; rfl
        · rw [if_neg (fun q => e (k92.symm.trans q)), z1]
          exact ⟨⟨by omega, zo_ti (by omega)⟩, z2⟩
      rw [Ch.det clo' cn, e299, e2910]
      exact SET.new hl
    · rw [o103] at h4
      rw [b6 105 (by decide)] at cl
      rw [a5 32 (by decide), a5 33 (by decide)]
      obtain ⟨l0, c0, u0⟩ := cbl i hi h4
      have c0' : Ch (ν 102) l0 (μ 105 i) := by
        refine Ch.congr (fun j hj => ?_) c0
        rcases vop with ⟨_, _, z2⟩ | ⟨_, _, _, z3⟩
        · rw [z2]
        · exact z3 j (by have := u0 j hj; omega)
      rw [Ch.det cl c0']
      exact (wy.2 i hi h4 l0 c0).congr (by omega) fun s hs => (o92 _ (by omega)).1
theorem CHW.fr {n d d' : Nat} {μ ν : zS} {own : Nat → Nat} {lo : List Nat} {lw : Nat → List Nat} (h : CHW n d μ own lo lw) (hd : d' ≤ d) (f : ν 102 = μ 102 ∧ ν 82 37 = μ 82 37) (g : ∀ i, i < d' → ν 103 i = μ 103 i ∧ ν 104 i = μ 104 i ∧ ν 105 i = μ 105 i) : CHW n d' ν own lo lw := by
  obtain ⟨a, b, c, e, k⟩ := h
  refine ⟨by rw [f.1, f.2]; exact a, fun i hi h4 => ?_, c, fun i hi h35 z hz h => ?_, fun i j ij hj hi' hj' z z' hz hz' e1 e2 => ?_⟩
  · rw [(g i hi).1] at h4
    rw [f.1, (g i hi).2.2]
    exact b i (by omega) h4
  · rw [(g i hi).1] at h35
    rw [(g i hi).2.1] at h
    exact e i (by omega) h35 z hz h
  · rw [(g i (by omega)).1] at hi'
    rw [(g j hj).1] at hj'
    rw [(g i (by omega)).2.1] at e1
    rw [(g j hj).2.1] at e2
    exact k i j ij (by omega) hi' hj' z z' hz hz' e1 e2
theorem CHW.step {t L d : Nat} {k : Int32} {μ ν : zS} {own : Nat → Nat} {lo : List Nat} {lw : Nat → List Nat} (h : CHW L d μ own lo lw) (hL : L < 24) (aw : AW t L lo k μ ν) (g : ν 103 = μ 103 ∧ ν 104 = μ 104 ∧ ν 105 = μ 105) : ∃ own' lo', CHW (L + 1) d ν own' lo' lw ∧ own' (2 * L + 1) = 0 := by
  obtain ⟨a, b, c, e, k5⟩ := h
  obtain ⟨_, _, vop⟩ := aw
  have z2 : own (2 * L) = 0 := c _ (Nat.le_refl _)
  have z3 : own (2 * L + 1) = 0 := c _ (by omega)
  have oth : ∀ j, j ≠ 2 * L → ν 102 j = μ 102 j := fun j hj => by
    rcases vop with ⟨_, _, q⟩ | ⟨_, _, _, q⟩
    · rw [q]
    · exact q j hj
  refine ⟨fun j => if j = 2 * L then (if k = 13 then 0 else 1) else if own j = 1 then 0 else own j, if k = 13 then [] else [2 * L], ⟨⟨?_, fun j hj => ?_⟩, fun i hi h4 => ⟨?_, fun j hj => ?_⟩, fun j hj => ?_, fun i hi h35 z hz h => ?_, by rw [g.1, g.2.1]; exact k5⟩, ?_⟩
  · rcases vop with ⟨q, q1, q2⟩ | ⟨q, q1, q2, q3⟩
    · try dsimp only
      rw [if_pos q, q1]; rfl
    · try dsimp only
      rw [if_neg q, q1]; exact Ch.one (by omega) q2
  · by_cases q : k = 13
    · try dsimp only
      rw [if_pos q] at hj; exact absurd hj List.not_mem_nil
    · try dsimp only
      rw [if_neg q, List.mem_singleton] at hj
      try dsimp only
      rw [hj, if_pos rfl, if_neg q]
  · rw [g.1] at h4
    rw [g.2.2]
    exact Ch.congr (fun j hj => oth j fun q => by have := (b i hi h4).2 j hj; rw [q, z2] at this; omega) (b i hi h4).1
  · rw [g.1] at h4
    have o := (b i hi h4).2 j hj
    try dsimp only
    rw [if_neg (fun q => by rw [q, z2] at o; omega), if_neg (by omega)]
    exact o
  · try dsimp only
    rw [if_neg (by omega)]
    have o := c j (by omega)
    try dsimp only
    rw [o]; rfl
  · rw [g.1] at h35
    rw [g.2.1] at h
    have o := e i hi h35 z hz h
    try dsimp only
    rw [if_neg (by omega), o]; rfl
  · try dsimp only
    rw [if_neg (by omega), z3]; rfl
theorem WRT.of {t n : Nat} {ρ μ r ν : zS} (h : WRT t n ρ μ) (e : ∀ q, q = 8 ∨ q = 9 ∨ q = 10 ∨ q = 11 ∨ q = 12 → r q = ρ q) (f : ∀ q, q = 92 ∨ q = 93 ∨ q = 94 ∨ q = 95 ∨ q = 96 ∨ q = 97 → ν q = μ q) : WRT t n r ν := fun s hs => ⟨(h s hs).1.of ⟨by rw [e 8 (by decide)], by rw [e 10 (by decide)], by rw [e 11 (by decide)], by rw [e 12 (by decide)]⟩ ⟨by rw [f 92 (by decide)], by rw [f 93 (by decide)], by rw [f 95 (by decide)], by rw [f 96 (by decide)], by rw [f 97 (by decide)]⟩, by rw [e 9 (by decide), f 94 (by decide)]; exact (h s hs).2.1, by rw [e 9 (by decide), f 92 (by decide)]; exact (h s hs).2.2⟩
theorem WRC.of {t n : Nat} {ρ μ r ν : zS} (h : WRC t n ρ μ) (e : ∀ q, q = 8 ∨ q = 9 ∨ q = 10 ∨ q = 11 ∨ q = 12 → r q = ρ q) (f : ∀ q, q = 92 ∨ q = 93 ∨ q = 94 ∨ q = 95 ∨ q = 96 ∨ q = 97 → ν q = μ q) : WRC t n r ν := fun s hs => ⟨(h s hs).1.of ⟨by rw [e 8 (by decide)], by rw [e 10 (by decide)], by rw [e 11 (by decide)], by rw [e 12 (by decide)]⟩ ⟨by rw [f 92 (by decide)], by rw [f 93 (by decide)], by rw [f 95 (by decide)], by rw [f 96 (by decide)], by rw [f 97 (by decide)]⟩, by rw [e 9 (by decide), f 92 (by decide), f 94 (by decide)]; exact (h s hs).2⟩
theorem MKS.of {t n d d' : Nat} {ρ μ r ν : zS} (h : MKS t n d ρ μ) (hd : d' ≤ d) (e : ∀ i, i < d' → r 31 i = ρ 31 i ∧ r 34 i = ρ 34 i) (f : ∀ i, i < d' → ν 103 i = μ 103 i ∧ ν 104 i = μ 104 i ∧ ν 106 i = μ 106 i) (g : ∀ q, q = 92 ∨ q = 93 ∨ q = 96 → ν q = μ q) : MKS t n d' r ν := by
  intro i hi
  obtain ⟨f1, f2, f3⟩ := f i hi
  rw [f1, f2, f3, (e i hi).1, (e i hi).2, g 92 (by decide), g 93 (by decide), g 96 (by decide)]
  exact h i (by omega)
theorem WAY.of {t n d d' : Nat} {ρ μ r ν : zS} (h : WAY t n d ρ μ) (hd : d' ≤ d) (e29 : r 29 9 = ρ 29 9 ∧ r 29 10 = ρ 29 10) (e : ∀ i, i < d' → r 32 i = ρ 32 i ∧ r 33 i = ρ 33 i) (f : ∀ i, i < d' → ν 103 i = μ 103 i ∧ ν 105 i = μ 105 i) (g : ν 92 = μ 92 ∧ ν 102 = μ 102 ∧ ν 82 37 = μ 82 37) : WAY t n d' r ν := by
  refine ⟨fun lo c => ?_, fun i hi h4 l c => ?_⟩
  · rw [g.2.1, g.2.2] at c
    rw [g.1, e29.1, e29.2]
    exact h.1 lo c
  · rw [(f i hi).1] at h4
    rw [g.2.1, (f i hi).2] at c
    rw [g.1, (e i hi).1, (e i hi).2]
    exact h.2 i (by omega) h4 l c
theorem WVX.of {c len : Nat → Nat} {d : Nat} {ρ μ r ν : zS} (h : WVX c len d ρ μ) (e : ∀ q, q = 8 ∨ q = 9 ∨ q = 10 ∨ q = 11 ∨ q = 12 ∨ q = 31 ∨ q = 32 ∨ q = 33 ∨ q = 34 → r q = ρ q) (e29 : ∀ i, i = 9 ∨ i = 10 ∨ i = 11 → r 29 i = ρ 29 i) (f : ∀ q, (92 ≤ q ∧ q ≤ 97) ∨ (102 ≤ q ∧ q ≤ 106) → ν q = μ q) (f82 : ν 82 37 = μ 82 37 ∧ ν 82 40 = μ 82 40) : WVX c len d r ν := by
  refine ⟨fun t ht => (h.1 t ht).of (fun q hq => e q (by omega)) (fun q hq => f q (by omega)), fun hd => ?_⟩
  obtain ⟨a, b, k, g⟩ := h.2 hd
  refine ⟨a.of (fun q hq => e q (by omega)) (fun q hq => f q (by omega)), b.of (Nat.le_refl _) (fun i _ => ⟨by rw [e 31 (by decide)], by rw [e 34 (by decide)]⟩) (fun i _ => ⟨by rw [f 103 (by decide)], by rw [f 104 (by decide)], by rw [f 106 (by decide)]⟩) (fun q hq => f q (by omega)), k.of (Nat.le_refl _) ⟨e29 9 (by decide), e29 10 (by decide)⟩ (fun i _ => ⟨by rw [e 32 (by decide)], by rw [e 33 (by decide)]⟩) (fun i _ => ⟨by rw [f 103 (by decide)], by rw [f 105 (by decide)]⟩) ⟨f 92 (by decide), f 102 (by decide), f82.1⟩, by rw [e29 11 (by decide), f82.2]; exact g⟩
theorem WVX.rd {c len : Nat → Nat} {d : Nat} {ρ μ r ν : zS} (h : WVX c len d ρ μ) (x : RXF ρ r) (m : RMF μ ν) : WVX c len d r ν :=
  h.of (fun q hq => x.1 q (by omega) (by omega) (by omega)) (fun i _ => by rw [x.1 29 (by decide) (by decide) (by decide)]) (fun q hq => m.1 q (by omega) (by omega) (by omega)) ⟨m.2.1 37 (by decide) (by decide) (by decide) (by decide) (by decide) (by decide) (by decide) (by decide), m.2.1 40 (by decide) (by decide) (by decide) (by decide) (by decide) (by decide) (by decide) (by decide)⟩
theorem VX.rd {c len : Nat → Nat} {d : Nat} {ρ μ r ν : zS} (h : VX c len d ρ μ) (x : RXF ρ r) (m : RMF μ ν) : VX c len d r ν := by
  refine ⟨h.1.rd x m, fun hd => ?_⟩
  obtain ⟨own, lo, lw, cw⟩ := h.2 hd
  have f : ∀ q, q = 102 ∨ q = 103 ∨ q = 104 ∨ q = 105 → ν q = μ q := fun q hq => m.1 q (by omega) (by omega) (by omega)
  exact ⟨own, lo, lw, cw.fr (Nat.le_refl _) ⟨f 102 (by decide), m.2.1 37 (by decide) (by decide) (by decide) (by decide) (by decide) (by decide) (by decide) (by decide)⟩ (fun i _ => ⟨by rw [f 103 (by decide)], by rw [f 104 (by decide)], by rw [f 105 (by decide)]⟩)⟩
theorem VX.step {c len : Nat → Nat} {d t L : Nat} {k : Int32} {ρ μ r ν : zS} (h : VX c len d ρ μ) (pk : PKW c len d ρ μ) (hd : 0 < d) (ht : t = c 2 - 1) (hL : L = len t) (hl : L < 24) (x : CEx t L k ρ r) (m : MEx t L k μ ν) (sb : SBJ k (r 8 (24 * t + L)) (ν 93 (24 * t + L))) : VX c (lUp len t (L + 1)) d r ν ∧ ∃ own lo lw, CHW (L + 1) d ν own lo lw ∧ own (2 * L + 1) = 0 := by
  obtain ⟨own, lo, lw, cw⟩ := h.2 hd
  have cw' : CHW L d μ own lo lw := by rw [hL, ht]; exact cw
  have ch := cw'.x
  have q4 := (pk.2.2.2.2.2.1 hd).2.2.2.1
  have wx := h.1.step hd q4 ch ht hL hl x m sb (fun t' ht' => (pk.1 t' ht').1)
  have aw := m.2.2.2.2.2.2.2.2.2.2.1 lo cw'.1.1 (fun j hj => by
    by_cases q : j < 2 * L
    · exact q
    · have := cw'.1.2 j hj
      rw [cw'.2.2.1 j (by omega)] at this
      omega)
  have m5 := m.2.2.2.2.2.2.2.2.2.2.2.2
  obtain ⟨own', lo', cn, z⟩ := cw'.step hl aw ⟨m.1.2, m5 104 (by decide), m5 105 (by decide)⟩
  refine ⟨⟨wx, fun _ => ⟨own', lo', lw, ?_⟩⟩, own', lo', lw, cn, z⟩
  rw [← ht, lUp_at]
  exact cn
