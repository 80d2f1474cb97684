-- both answer alike
set_option maxRecDepth 2000
theorem hold_back (h b : Int32) : (((h ||| b) &&& (b ^^^ (-1))) ||| h) = h := by
  apply Int32.toBitVec_inj.mp
  rw [Int32.toBitVec_or, Int32.toBitVec_and, Int32.toBitVec_or, Int32.toBitVec_xor]
  apply BitVec.eq_of_getLsbD_eq
  intro i hi
  rw [BitVec.getLsbD_or, BitVec.getLsbD_and, BitVec.getLsbD_or, BitVec.getLsbD_xor]
  have o : (-1 : Int32).toBitVec.getLsbD i = true := by
    show (BitVec.allOnes 32).getLsbD i = true
    rw [BitVec.getLsbD_allOnes]
    exact decide_eq_true hi
  rw [o]
  cases h.toBitVec.getLsbD i <;> cases b.toBitVec.getLsbD i <;> rfl
theorem WAY.oth {t n d d' : Nat} {ρ μ r ν : zS} {own : Nat → Nat} {lo : List Nat} {lw : Nat → List Nat} (h : WAY t n d ρ μ) (cw : CHW n d μ own lo lw) (hd : d' < d) (e : ∀ i, i < d' → r 32 i = ρ 32 i ∧ r 33 i = ρ 33 i) (f : ∀ i, i < d' → ν 103 i = μ 103 i ∧ ν 105 i = μ 105 i) (g : ν 92 = μ 92) (gc : ∀ i, i < d' → μ 103 i = 4 → ∀ k, k ∈ lw i → ν 102 k = μ 102 k) : ∀ i, i < d' → ν 103 i = 4 → ∀ l, Ch (ν 102) l (ν 105 i) → SET (fun s => ν 92 (24 * t + s)) n (r 32 i) (r 33 i) l := by
  intro i hi h4 l cl
  rw [(f i hi).1] at h4
  rw [(f i hi).2] at cl
  have c0 := (cw.2.1 i (by omega) h4).1
  have c1 : Ch (ν 102) (lw i) (μ 105 i) := Ch.congr (gc i hi h4) c0
  rw [Ch.det cl c1, g, (e i hi).1, (e i hi).2]
  exact h.2 i (by omega) h4 (lw i) c0
theorem W_if {t n d : Nat} {ρ μ r ν : zS} {own : Nat → Nat} {lo : List Nat} {lw : Nat → List Nat} {z : Nat} (wy : WAY t n d ρ μ) (cw : CHW n d μ own lo lw) (hd : 0 < d) (hn : n ≤ 24) (k3 : μ 103 (d - 1) = 3) (hz : z < n) (h104 : μ 104 (d - 1) = Int32.ofNat z) (kz : μ 92 (24 * t + z) = 5 ∨ μ 92 (24 * t + z) = 6) (e : ∀ q, q ≠ 29 → r q = ρ q) (e9 : r 29 9 = ρ 29 9) (e10 : r 29 10 = ρ 29 10 ||| zJ_shl 1 (Int32.ofNat z)) (f : ∀ q, q ≠ 82 → q ≠ 102 → ν q = μ q) (fc : Ch (ν 102) ([2 * z + 1] ++ lo) (ν 82 37)) (fk : ∀ k, k ≠ 2 * z + 1 → ν 102 k = μ 102 k) : WAY t n (d - 1) r ν := by
  have n92 := f 92 (by decide) (by decide)
  have oz := cw.2.2.2.1 (d - 1) (by omega) (Or.inl k3) z (by omega) h104
  refine ⟨fun lo' cl => ?_, wy.oth cw (by omega) (fun i _ => ⟨by rw [e 32 (by decide)], by rw [e 33 (by decide)]⟩) (fun i _ => ⟨by rw [f 103 (by decide) (by decide)], by rw [f 105 (by decide) (by decide)]⟩) n92 (fun i hi h4 k hk => fk k fun q => ?_)⟩
  · rw [Ch.det cl fc, n92, e9, e10]
    have a := wy.1 lo cw.1.1
    have b := SET.side (kd := fun s => μ 92 (24 * t + s)) (L := n) hz hn kz
    have c := SET.cat a b
    rw [Int32.or_zero] at c
    exact c
  · have := (cw.2.1 i (by omega) h4).2 k hk
    rw [q, oz] at this
    omega
theorem W_else {t n d : Nat} {ρ μ r ν : zS} {own : Nat → Nat} {lo : List Nat} {lw : Nat → List Nat} (wy : WAY t n d ρ μ) (cw : CHW n d μ own lo lw) (hd : 0 < d) (k4 : μ 103 (d - 1) = 4) (e : ∀ q, q ≠ 29 → r q = ρ q) (e9 : r 29 9 = ρ 29 9 ||| ρ 32 (d - 1)) (e10 : r 29 10 = ρ 29 10 ||| ρ 33 (d - 1)) (f : ∀ q, q ≠ 82 → q ≠ 102 → ν q = μ q) (fc : Ch (ν 102) (lw (d - 1) ++ lo) (ν 82 37)) (fk : ∀ k, k ∉ lw (d - 1) → ν 102 k = μ 102 k) : WAY t n (d - 1) r ν := by
  have n92 := f 92 (by decide) (by decide)
  have own4 := (cw.2.1 (d - 1) (by omega) k4).2
  refine ⟨fun lo' cl => ?_, wy.oth cw (by omega) (fun i _ => ⟨by rw [e 32 (by decide)], by rw [e 33 (by decide)]⟩) (fun i _ => ⟨by rw [f 103 (by decide) (by decide)], by rw [f 105 (by decide) (by decide)]⟩) n92 (fun i hi h4 k hk => fk k fun q => ?_)⟩
  · rw [Ch.det cl fc, n92, e9, e10]
    exact SET.cat (wy.1 lo cw.1.1) (wy.2 (d - 1) (by omega) k4 (lw (d - 1)) (cw.2.1 (d - 1) (by omega) k4).1)
  · have a := (cw.2.1 i (by omega) h4).2 k hk
    have b := own4 k q
    omega
theorem W_turn {t n d : Nat} {ρ μ r ν : zS} {own : Nat → Nat} {lo : List Nat} {lw : Nat → List Nat} {z : Nat} (wy : WAY t n d ρ μ) (cw : CHW n d μ own lo lw) (hd : 0 < d) (hn : n ≤ 24) (k3 : μ 103 (d - 1) = 3) (hz : z < n) (h104 : μ 104 (d - 1) = Int32.ofNat z) (kz : μ 92 (24 * t + z) = 5 ∨ μ 92 (24 * t + z) = 6) (e32 : r 32 (d - 1) = ρ 29 9 ∧ r 33 (d - 1) = ρ 29 10) (eo : ∀ i, i ≠ d - 1 → r 32 i = ρ 32 i ∧ r 33 i = ρ 33 i) (e9 : r 29 9 = 0) (e10 : r 29 10 = zJ_shl 1 (Int32.ofNat z)) (n92 : ν 92 = μ 92) (f37 : ν 82 37 = Int32.ofNat (2 * z + 1) ∧ ν 102 (2 * z + 1) = -1 ∧ ∀ k, k ≠ 2 * z + 1 → ν 102 k = μ 102 k) (f105 : ν 105 (d - 1) = μ 82 37) (fo : ∀ j, j ≠ d - 1 → ν 103 j = μ 103 j ∧ ν 105 j = μ 105 j) : WAY t n d r ν := by
  have oz := cw.2.2.2.1 (d - 1) (by omega) (Or.inl k3) z (by omega) h104
  refine ⟨fun lo' cl => ?_, fun i hi h4 l cl => ?_⟩
  · have c1 : Ch (ν 102) [2 * z + 1] (ν 82 37) := by rw [f37.1]; exact Ch.one (by omega) f37.2.1
    rw [Ch.det cl c1, n92, e9, e10]
    exact SET.side (kd := fun s => μ 92 (24 * t + s)) hz hn kz
  · by_cases q : i = d - 1
    · subst q
      rw [f105] at cl
      have c1 : Ch (ν 102) lo (μ 82 37) := Ch.congr (fun k hk => f37.2.2 k fun w => by have := cw.1.2 k hk; rw [w, oz] at this; omega) cw.1.1
      rw [Ch.det cl c1, n92, e32.1, e32.2]
      exact wy.1 lo cw.1.1
    · rw [(fo i q).1] at h4
      rw [(fo i q).2] at cl
      have c0 := cw.2.1 i hi h4
      have c1 : Ch (ν 102) (lw i) (μ 105 i) := Ch.congr (fun k hk => f37.2.2 k fun w => by have := c0.2 k hk; rw [w, oz] at this; omega) c0.1
      rw [Ch.det cl c1, n92, (eo i q).1, (eo i q).2]
      exact wy.2 i hi h4 (lw i) c0.1
theorem W_while {t n d : Nat} {ρ μ r ν : zS} {own : Nat → Nat} {lo : List Nat} {lw : Nat → List Nat} {z : Nat} (wc : WRC t n ρ μ) (wy : WAY t n d ρ μ) (cw : CHW n d μ own lo lw) (hd : 0 < d) (hn : n ≤ 24) (k5 : μ 103 (d - 1) = 5) (hz : z < n) (h104 : μ 104 (d - 1) = Int32.ofNat z) (kz : μ 92 (24 * t + z) = 5 ∨ μ 92 (24 * t + z) = 6) (e : ∀ q, q ≠ 9 → q ≠ 10 → q ≠ 29 → r q = ρ q) (w9 : RWB t 24 (Int32.ofNat z) (ρ 29 9) (ρ 9) (r 9)) (w10 : RWB t 24 (Int32.ofNat z) (ρ 29 10) (ρ 10) (r 10)) (e9 : r 29 9 = 0) (e10 : r 29 10 = zJ_shl 1 (Int32.ofNat z)) (f : ∀ q, q ≠ 82 → q ≠ 94 → q ≠ 95 → q ≠ 102 → ν q = μ q) (b4 : ∀ i, ν 94 i = if 24 * t ≤ i ∧ 2 * (i - 24 * t) ∈ lo then Int32.ofNat z else μ 94 i) (b5 : ∀ i, ν 95 i = if 24 * t ≤ i ∧ 2 * (i - 24 * t) + 1 ∈ lo then Int32.ofNat z else μ 95 i) (f37 : ν 82 37 = Int32.ofNat (2 * z + 1) ∧ ν 102 (2 * z + 1) = -1 ∧ ∀ k, k ≠ 2 * z + 1 → ν 102 k = μ 102 k) : WRC t n r ν ∧ WAY t n (d - 1) r ν ∧ ∀ j, j < 24 * t → r 9 j = ρ 9 j ∧ r 10 j = ρ 10 j ∧ ν 94 j = μ 94 j ∧ ν 95 j = μ 95 j := by
  have n92 := f 92 (by decide) (by decide) (by decide) (by decide)
  have oz := cw.2.2.2.1 (d - 1) (by omega) (Or.inr k5) z (by omega) h104
  have set := wy.1 lo cw.1.1
  refine ⟨fun s hs => ?_, ⟨fun lo' cl => ?_, wy.oth cw (by omega) (fun i _ => ⟨by rw [e 32 (by decide) (by decide) (by decide)], by rw [e 33 (by decide) (by decide) (by decide)]⟩) (fun i _ => ⟨by rw [f 103 (by decide) (by decide) (by decide) (by decide)], by rw [f 105 (by decide) (by decide) (by decide) (by decide)]⟩) n92 (fun i hi h4 k hk => f37.2.2 k fun q => ?_)⟩, fun j hj => ?_⟩
  · obtain ⟨rq, r9⟩ := wc s hs
    obtain ⟨s1, s2, s3, s4⟩ := set s (by omega)
    have sub : 24 * t + s - 24 * t = s := by omega
    have g10 : r 10 (24 * t + s) = ν 95 (24 * t + s) ∧ (¬ (μ 92 (24 * t + s) = 5 ∨ μ 92 (24 * t + s) = 6) → r 10 (24 * t + s) = -1) := by
      by_cases b : bit (ρ 29 10) s
      · refine ⟨?_, fun n => absurd (s4 b).2 n⟩
        rw [(w10 _).1 ⟨by omega, by omega, by rw [sub]; exact b⟩, b5, if_pos ⟨by omega, by rw [sub]; exact s2.mp b⟩]
      · have e1 : r 10 (24 * t + s) = ρ 10 (24 * t + s) := (w10 _).2 fun q => b (by have := q.2.2; rw [sub] at this; exact this)
        have e2 : ν 95 (24 * t + s) = μ 95 (24 * t + s) := by rw [b5, if_neg fun q => b (s2.mpr (by have := q.2; rw [sub] at this; exact this))]
        rw [e1, e2]
        exact ⟨rq.2.2.1, rq.2.2.2.1⟩
    refine ⟨⟨by rw [e 11 (by decide) (by decide) (by decide), f 96 (by decide) (by decide) (by decide) (by decide)]; exact rq.1, by rw [e 12 (by decide) (by decide) (by decide), f 97 (by decide) (by decide) (by decide) (by decide)]; exact rq.2.1, g10.1, by rw [n92]; exact g10.2, by rw [n92, e 8 (by decide) (by decide) (by decide), f 93 (by decide) (by decide) (by decide) (by decide)]; exact rq.2.2.2.2⟩, fun n13 => ?_⟩
    rw [n92] at n13
    by_cases b : bit (ρ 29 9) s
    · rw [(w9 _).1 ⟨by omega, by omega, by rw [sub]; exact b⟩, b4, if_pos ⟨by omega, by rw [sub]; exact s1.mp ⟨b, n13⟩⟩]
    · rw [(w9 _).2 fun q => b (by have := q.2.2; rw [sub] at this; exact this), b4, if_neg fun q => b (s1.mpr (by have := q.2; rw [sub] at this; exact this)).1]
      exact r9 n13
  · have c1 : Ch (ν 102) [2 * z + 1] (ν 82 37) := by rw [f37.1]; exact Ch.one (by omega) f37.2.1
    rw [Ch.det cl c1, n92, e9, e10]
    exact SET.side (kd := fun s => μ 92 (24 * t + s)) hz hn kz
  · have := (cw.2.1 i (by omega) h4).2 k hk
    rw [q, oz] at this
    omega
  · exact ⟨(w9 j).2 fun q => by omega, (w10 j).2 fun q => by omega, by rw [b4, if_neg fun q => by omega], by rw [b5, if_neg fun q => by omega]⟩
theorem W_fin {t n : Nat} {ρ μ r r' ν : zS} (wc : WRC t n ρ μ) (wy : ∀ lo, Ch (μ 102) lo (μ 82 37) → SET (fun s => μ 92 (24 * t + s)) n (ρ 29 9) (ρ 29 10) lo) (hn : n ≤ 24) (k7 : ∀ s, s < n → ρ 7 (24 * t + s) = μ 92 (24 * t + s)) (fn : FN1 t n ρ r') (e : ∀ q, q ≠ 29 → r q = r' q) (f : ∀ q, q ≠ 82 → ν q = μ q) (f37 : ν 82 37 = μ 82 37) : WVP t n r ν := by
  intro lo cl s hs
  rw [f 102 (by decide), f37] at cl
  obtain ⟨s1, s2, s3, s4⟩ := wy lo cl s (by omega)
  obtain ⟨rq, r9⟩ := wc s hs
  obtain ⟨c, w10, y1, y2⟩ := fn
  have sub : 24 * t + s - 24 * t = s := by omega
  have R : ∀ q, q = 8 ∨ q = 11 ∨ q = 12 → r q = ρ q := fun q hq => by rw [e q (by omega), c.1 q (by omega) (by omega) (by omega)]
  rw [f 92 (by decide), f 93 (by decide), f 94 (by decide), f 95 (by decide), f 96 (by decide), f 97 (by decide), R 8 (by decide), R 11 (by decide), R 12 (by decide), e 9 (by decide), e 10 (by decide)]
  refine ⟨⟨rq.1, rq.2.1, rq.2.2.2.2⟩, ⟨fun m => ?_, fun m => ?_, fun n56 => ?_⟩, fun k => ?_, fun k => ⟨fun m => ?_, fun m => ?_⟩⟩
  · exact (w10 _).1 ⟨by omega, by omega, by rw [sub]; exact s2.mpr m⟩
  · rw [(w10 _).2 fun q => m (s2.mp (by have := q.2.2; rw [sub] at this; exact this))]
    exact rq.2.2.1
  · by_cases b : bit (ρ 29 10) s
    · exact absurd (s4 b).2 n56
    · rw [(w10 _).2 fun q => b (by have := q.2.2; rw [sub] at this; exact this)]
      exact rq.2.2.2.1 n56
  · exact y1 _ ⟨by omega, by omega, by rw [k7 s hs]; exact k⟩
  · exact (y2 _ fun w => k ((k7 s hs).symm.trans w.2.2)).1 ⟨by omega, by omega, by rw [sub]; exact (s1.mpr m).1⟩
  · rw [(y2 _ fun w => k ((k7 s hs).symm.trans w.2.2)).2 fun q => m (s1.mp ⟨by have := q.2.2; rw [sub] at this; exact this, k⟩)]
    exact r9 k
