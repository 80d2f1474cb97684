-- both answer alike
set_option maxRecDepth 2000
theorem CHW.opn {n d : Nat} {s st : Int32} {μ ν : zS} {own : Nat → Nat} {lo : List Nat} {lw : Nat → List Nat} (h : CHW n d μ own lo lw) (o : OBM s st d μ ν) (s4 : s ≠ 4) (fr : (s = 3 ∨ s = 5) → ∀ z : Nat, z < 24 → st = Int32.ofNat z → own (2 * z + 1) = 0 ∧ ∀ i, i < d → (μ 103 i = 3 ∨ μ 103 i = 4 ∨ μ 103 i = 5) → ∀ z' : Nat, z' < 24 → μ 104 i = Int32.ofNat z' → z' < z) : CHW n (d + 1) ν own lo lw := by
  obtain ⟨a, b, c, e, k⟩ := h
  have en : ∀ q, q ≠ 82 → q ≠ 103 → q ≠ 104 → q ≠ 106 → ν q = μ q := o.1
  have n37 : ν 82 37 = μ 82 37 := o.2.1 37 (by decide) (by decide) (by decide) (by decide) (by decide)
  have n102 := en 102 (by decide) (by decide) (by decide) (by decide)
  have n105 := en 105 (by decide) (by decide) (by decide) (by decide)
  have top : ν 103 d = s ∧ ν 104 d = st := ⟨o.2.2.2.1.1, o.2.2.2.1.2.1⟩
  have low : ∀ i, i ≠ d → ν 103 i = μ 103 i ∧ ν 104 i = μ 104 i := fun i hi => ⟨(o.2.2.2.2 i hi).1, (o.2.2.2.2 i hi).2.1⟩
  refine ⟨by rw [n102, n37]; exact a, fun i hi h4 => ?_, c, fun i hi h35 z hz h => ?_, fun i j ij hj hi' hj' z z' hz hz' e1 e2 => ?_⟩
  · by_cases q : i = d
    · rw [q, top.1] at h4; exact absurd h4 s4
    · rw [(low i q).1] at h4
      rw [n102, n105]; exact b i (by omega) h4
  · by_cases q : i = d
    · rw [q, top.1] at h35
      rw [q, top.2] at h
      exact (fr h35 z hz h).1
    · rw [(low i q).1] at h35
      rw [(low i q).2] at h
      exact e i (by omega) h35 z hz h
  · rw [(low i (by omega)).1] at hi'
    rw [(low i (by omega)).2] at e1
    by_cases q : j = d
    · rw [q, top.1] at hj'
      rw [q, top.2] at e2
      exact (fr (by rcases hj' with w | w | w; exact Or.inl w; exact absurd w s4; exact Or.inr w) z' hz' e2).2 i (by omega) hi' z hz e1
    · rw [(low j q).1] at hj'
      rw [(low j q).2] at e2
      exact k i j ij (by omega) hi' hj' z z' hz hz' e1 e2
theorem CHW.cif {n d z : Nat} {μ ν : zS} {own : Nat → Nat} {lo : List Nat} {lw : Nat → List Nat} (h : CHW n d μ own lo lw) (hd : 0 < d) (k3 : μ 103 (d - 1) = 3) (hz : z < n) (hn : n ≤ 24) (h104 : μ 104 (d - 1) = Int32.ofNat z) (f : ∀ q, q = 103 ∨ q = 104 ∨ q = 105 → ν q = μ q) (fc : Ch (ν 102) ([2 * z + 1] ++ lo) (ν 82 37)) (fk : ∀ k, k ≠ 2 * z + 1 → ν 102 k = μ 102 k) : CHW n (d - 1) ν (fun j => if j = 2 * z + 1 then 1 else own j) ([2 * z + 1] ++ lo) lw := by
  obtain ⟨a, b, c, e, k⟩ := h
  have oz := e (d - 1) (by omega) (Or.inl k3) z (by omega) h104
  refine ⟨⟨fc, fun j hj => ?_⟩, fun i hi h4 => ?_, fun j hj => ?_, fun i hi h35 z' hz' h => ?_, fun i j ij hj => by rw [f 103 (by decide), f 104 (by decide)]; exact k i j ij (by omega)⟩
  · by_cases q : j = 2 * z + 1
    · try dsimp only
      rw [if_pos q]
    · try dsimp only
      rw [if_neg q]
      rw [List.mem_append, List.mem_singleton] at hj
      exact a.2 j (hj.resolve_left q)
  · rw [f 103 (by decide)] at h4
    rw [f 105 (by decide)]
    have o := (b i (by omega) h4).2
    refine ⟨Ch.congr (fun j hj => fk j fun q => by have := o j hj; rw [q, oz] at this; omega) (b i (by omega) h4).1, fun j hj => ?_⟩
    try dsimp only
    rw [if_neg (fun q => by have := o j hj; rw [q, oz] at this; omega)]
    exact o j hj
  · try dsimp only
    rw [if_neg (by omega)]; exact c j hj
  · rw [f 103 (by decide)] at h35
    rw [f 104 (by decide)] at h
    have lt := k i (d - 1) (by omega) (by omega) (by rcases h35 with w | w; exact Or.inl w; exact Or.inr (Or.inr w)) (Or.inl k3) z' z hz' (by omega) h h104
    try dsimp only
    rw [if_neg (by omega)]
    exact e i (by omega) h35 z' hz' h
theorem CHW.cels {n d : Nat} {μ ν : zS} {own : Nat → Nat} {lo : List Nat} {lw : Nat → List Nat} (h : CHW n d μ own lo lw) (hd : 0 < d) (k4 : μ 103 (d - 1) = 4) (f : ∀ q, q = 103 ∨ q = 104 ∨ q = 105 → ν q = μ q) (fc : Ch (ν 102) (lw (d - 1) ++ lo) (ν 82 37)) (fk : ∀ k, k ∉ lw (d - 1) → ν 102 k = μ 102 k) : CHW n (d - 1) ν (fun j => if own j = d + 1 then 1 else own j) (lw (d - 1) ++ lo) lw := by
  obtain ⟨a, b, c, e, k⟩ := h
  have o4 := (b (d - 1) (by omega) k4).2
  refine ⟨⟨fc, fun j hj => ?_⟩, fun i hi h4 => ?_, fun j hj => ?_, fun i hi h35 z' hz' h => ?_, fun i j ij hj => by rw [f 103 (by decide), f 104 (by decide)]; exact k i j ij (by omega)⟩
  · rw [List.mem_append] at hj
    rcases hj with hj | hj
    · try dsimp only
      rw [if_pos (by have := o4 j hj; omega)]
    · by_cases q : own j = d + 1
      · try dsimp only
        rw [if_pos q]
      · try dsimp only
        rw [if_neg q]; exact a.2 j hj
  · rw [f 103 (by decide)] at h4
    rw [f 105 (by decide)]
    have o := (b i (by omega) h4).2
    refine ⟨Ch.congr (fun j hj => fk j fun q => by have := o j hj; have := o4 j q; omega) (b i (by omega) h4).1, fun j hj => ?_⟩
    try dsimp only
    rw [if_neg (by have := o j hj; omega)]
    exact o j hj
  · try dsimp only
    rw [c j hj]; rw [if_neg (by omega)]
  · rw [f 103 (by decide)] at h35
    rw [f 104 (by decide)] at h
    have := e i (by omega) h35 z' hz' h
    try dsimp only
    rw [this]; rw [if_neg (by omega)]
theorem CHW.cwh {n d z : Nat} {μ ν : zS} {own : Nat → Nat} {lo : List Nat} {lw : Nat → List Nat} (h : CHW n d μ own lo lw) (hd : 0 < d) (k5 : μ 103 (d - 1) = 5) (hz : z < n) (hn : n ≤ 24) (h104 : μ 104 (d - 1) = Int32.ofNat z) (f : ∀ q, q = 103 ∨ q = 104 ∨ q = 105 → ν q = μ q) (f37 : ν 82 37 = Int32.ofNat (2 * z + 1) ∧ ν 102 (2 * z + 1) = -1 ∧ ∀ k, k ≠ 2 * z + 1 → ν 102 k = μ 102 k) : CHW n (d - 1) ν (fun j => if j = 2 * z + 1 then 1 else if own j = 1 then 0 else own j) [2 * z + 1] lw := by
  obtain ⟨a, b, c, e, k⟩ := h
  have oz := e (d - 1) (by omega) (Or.inr k5) z (by omega) h104
  refine ⟨⟨by rw [f37.1]; exact Ch.one (by omega) f37.2.1, fun j hj => by rw [List.mem_singleton] at hj; exact if_pos hj⟩, fun i hi h4 => ?_, fun j hj => ?_, fun i hi h35 z' hz' h => ?_, fun i j ij hj => by rw [f 103 (by decide), f 104 (by decide)]; exact k i j ij (by omega)⟩
  · rw [f 103 (by decide)] at h4
    rw [f 105 (by decide)]
    have o := (b i (by omega) h4).2
    refine ⟨Ch.congr (fun j hj => f37.2.2 j fun q => by have := o j hj; rw [q, oz] at this; omega) (b i (by omega) h4).1, fun j hj => ?_⟩
    have oj := o j hj
    try dsimp only
    rw [if_neg (fun q => by rw [q, oz] at oj; omega), if_neg (by omega)]
    exact oj
  · try dsimp only
    rw [if_neg (by omega), c j hj]; rfl
  · rw [f 103 (by decide)] at h35
    rw [f 104 (by decide)] at h
    have lt := k i (d - 1) (by omega) (by omega) (by rcases h35 with w | w; exact Or.inl w; exact Or.inr (Or.inr w)) (Or.inr (Or.inr k5)) z' z hz' (by omega) h h104
    have := e i (by omega) h35 z' hz' h
    try dsimp only
    rw [if_neg (by omega), this]; rfl
theorem CHW.ctn {n d z : Nat} {μ ν : zS} {own : Nat → Nat} {lo : List Nat} {lw : Nat → List Nat} (h : CHW n d μ own lo lw) (hd : 0 < d) (k3 : μ 103 (d - 1) = 3) (hz : z < n) (hn : n ≤ 24) (h104 : μ 104 (d - 1) = Int32.ofNat z) (f37 : ν 82 37 = Int32.ofNat (2 * z + 1) ∧ ν 102 (2 * z + 1) = -1 ∧ ∀ k, k ≠ 2 * z + 1 → ν 102 k = μ 102 k) (ft : ν 103 (d - 1) = 4 ∧ ν 104 (d - 1) = Int32.ofNat z ∧ ν 105 (d - 1) = μ 82 37) (fo : ∀ j, j ≠ d - 1 → ν 103 j = μ 103 j ∧ ν 104 j = μ 104 j ∧ ν 105 j = μ 105 j) : CHW n d ν (fun j => if j = 2 * z + 1 then 1 else if own j = 1 then d + 1 else own j) [2 * z + 1] (fun i => if i = d - 1 then lo else lw i) := by
  obtain ⟨a, b, c, e, k⟩ := h
  have oz := e (d - 1) (by omega) (Or.inl k3) z (by omega) h104
  refine ⟨⟨by rw [f37.1]; exact Ch.one (by omega) f37.2.1, fun j hj => by rw [List.mem_singleton] at hj; exact if_pos hj⟩, fun i hi h4 => ?_, fun j hj => ?_, fun i hi h35 z' hz' h => ?_, fun i j ij hj hi' hj' y y' hy hy' e1 e2 => ?_⟩
  · by_cases q : i = d - 1
    · try dsimp only
      rw [if_pos q, q, ft.2.2]
      refine ⟨Ch.congr (fun j hj => f37.2.2 j fun w => by have := a.2 j hj; rw [w, oz] at this; omega) a.1, fun j hj => ?_⟩
      have oj := a.2 j hj
      try dsimp only
      rw [if_neg (fun w => by rw [w, oz] at oj; omega), if_pos oj]
      omega
    · try dsimp only
      rw [if_neg q]
      rw [(fo i q).1] at h4
      rw [(fo i q).2.2]
      have o := (b i (by omega) h4).2
      refine ⟨Ch.congr (fun j hj => f37.2.2 j fun w => by have := o j hj; rw [w, oz] at this; omega) (b i (by omega) h4).1, fun j hj => ?_⟩
      have oj := o j hj
      try dsimp only
      rw [if_neg (fun w => by rw [w, oz] at oj; omega), if_neg (by omega)]
      exact oj
  · try dsimp only
    rw [if_neg (by omega), c j hj]; rfl
  · have q : i ≠ d - 1 := fun q => by rw [q, ft.1] at h35; exact absurd h35 (by decide)
    rw [(fo i q).1] at h35
    rw [(fo i q).2.1] at h
    have lt := k i (d - 1) (by omega) (by omega) (by rcases h35 with w | w; exact Or.inl w; exact Or.inr (Or.inr w)) (Or.inl k3) z' z hz' (by omega) h h104
    have := e i hi h35 z' hz' h
    try dsimp only
    rw [if_neg (by omega), this]; rfl
  · have hi2 : i ≠ d - 1 := by omega
    rw [(fo i hi2).1] at hi'
    rw [(fo i hi2).2.1] at e1
    by_cases q : j = d - 1
    · rw [q, ft.2.1, ← h104] at e2
      exact k i (d - 1) (by omega) (by omega) hi' (Or.inl k3) y y' hy hy' e1 e2
    · rw [(fo j q).1] at hj'
      rw [(fo j q).2.1] at e2
      exact k i j ij hj hi' hj' y y' hy hy' e1 e2
