-- every method answers: totality within bounds, by invariants of the two states
set_option maxRecDepth 2000
/-! THE REFERENCE'S PROGRAM AND STATES -/
def zu (f : Nat → Int32) (i : Nat) (v : Int32) : Nat → Int32 := fun j => if j = i then v else f j
theorem zx_up_same {σ : zS} {q i : Nat} {v : Int32} : zx_up σ q i v q = zu (σ q) i v := by
  funext j; simp [zx_up, zu]
theorem zu_other {σ : zS} {q p i : Nat} {v : Int32} (h : p ≠ q) : zx_up σ q i v p = σ p := by
  funext j; simp [zx_up, h]
theorem z_four (t : Int32) : 0 ≤ t → t < 4 → t = 0 ∨ t = 1 ∨ t = 2 ∨ t = 3 := by grind
theorem z_six (t : Int32) : 0 ≤ t → t < 6 → t = 0 ∨ t = 1 ∨ t = 2 ∨ t = 3 ∨ t = 4 ∨ t = 5 := by grind
def NT (f g w : Nat → Int32) (t : Nat) (b : Int32) : Prop := (0 ≤ f (14 + 6 * t) ∧ f (14 + 6 * t) ≤ g t) ∧ ((f (15 + 6 * t) = 1 ∨ f (15 + 6 * t) = 2 ∨ f (15 + 6 * t) = 3) → f (14 + 6 * t) < g t) ∧ ((f (15 + 6 * t) = 2 ∨ f (15 + 6 * t) = 3) → 0 ≤ w (b + f (14 + 6 * t)).toNatClampNeg ∧ w (b + f (14 + 6 * t)).toNatClampNeg ≤ 3) ∧ (0 ≤ f (15 + 6 * t) ∧ f (15 + 6 * t) ≤ 5)
def NO (f : Nat → Int32) (m : Int32) (l : Nat) : Prop := 0 ≤ f l ∧ f l ≤ m
def NW (f g w : Nat → Int32) (m : Int32) : Prop := (NT f g w 0 0 ∧ NT f g w 1 24 ∧ NT f g w 2 48 ∧ NT f g w 3 72) ∧ (NO f m 6 ∧ NO f m 7 ∧ NO f m 8 ∧ NO f m 9)
/-- where an update leaves NW as it is -/
abbrev NF (i : Nat) : Prop := i ≠ 6 ∧ i ≠ 7 ∧ i ≠ 8 ∧ i ≠ 9 ∧ i ≠ 14 ∧ i ≠ 15 ∧ i ≠ 20 ∧ i ≠ 21 ∧ i ≠ 26 ∧ i ≠ 27 ∧ i ≠ 32 ∧ i ≠ 33
theorem NW.free {f g w : Nat → Int32} {m : Int32} {i : Nat} {v : Int32} (hi : NF i) (h : NW f g w m) : NW (zu f i v) g w m := by
  unfold NF at hi
  unfold NW NT NO at h ⊢
  simp only [zu]
  grind
theorem NW.own {f g w : Nat → Int32} {m : Int32} {i : Nat} {v : Int32} (hi : i = 6 ∨ i = 7 ∨ i = 8 ∨ i = 9) (hv : 0 ≤ v ∧ v ≤ m) (h : NW f g w m) : NW (zu f i v) g w m := by
  unfold NW NT NO at h ⊢
  simp only [zu]
  rcases hi with rfl | rfl | rfl | rfl <;> grind
theorem NF10 {X : Int32} (h : 0 ≤ X ∧ X < 4) : NF (10 + X).toNatClampNeg := by
  rcases z_four X h.1 h.2 with rfl | rfl | rfl | rfl <;> decide
theorem NF2 {r x X : Int32} (hr : r = 14 + 6 * x) (hx : 0 ≤ x ∧ x < 4) (h : 0 ≤ X ∧ X < 4) : NF ((r + 2) + X).toNatClampNeg := by
  subst hr
  rcases z_four X h.1 h.2 with rfl | rfl | rfl | rfl <;> rcases z_four x hx.1 hx.2 with rfl | rfl | rfl | rfl <;> decide
theorem NF5 {r x : Int32} (hr : r = 14 + 6 * x) (hx : 0 ≤ x ∧ x < 4) : NF (r + 5).toNatClampNeg := by
  subst hr
  rcases z_four x hx.1 hx.2 with rfl | rfl | rfl | rfl <;> decide
theorem NFv {X : Int32} (h : 0 ≤ X ∧ X < 6) : NF X.toNatClampNeg := by
  rcases z_six X h.1 h.2 with rfl | rfl | rfl | rfl | rfl | rfl <;> decide
theorem NI6 {X : Int32} (h : 0 ≤ X ∧ X < 4) : (6 + X).toNatClampNeg = 6 ∨ (6 + X).toNatClampNeg = 7 ∨ (6 + X).toNatClampNeg = 8 ∨ (6 + X).toNatClampNeg = 9 := by
  rcases z_four X h.1 h.2 with rfl | rfl | rfl | rfl <;> decide
theorem NW.rd {f g w : Nat → Int32} {m : Int32} (h : NW f g w m) (r x : Int32) : r = 14 + 6 * x → 0 ≤ x → x < 4 → (0 ≤ f r.toNatClampNeg ∧ f r.toNatClampNeg ≤ g x.toNatClampNeg) ∧ ((f (15 + 6 * x).toNatClampNeg = 1 ∨ f (15 + 6 * x).toNatClampNeg = 2 ∨ f (15 + 6 * x).toNatClampNeg = 3) → f r.toNatClampNeg < g x.toNatClampNeg) ∧ ((f (15 + 6 * x).toNatClampNeg = 2 ∨ f (15 + 6 * x).toNatClampNeg = 3) → 0 ≤ w (24 * x + f r.toNatClampNeg).toNatClampNeg ∧ w (24 * x + f r.toNatClampNeg).toNatClampNeg ≤ 3) ∧ (0 ≤ f (15 + 6 * x).toNatClampNeg ∧ f (15 + 6 * x).toNatClampNeg ≤ 5) := by
  intro hr h0 h4
  subst hr
  unfold NW NT NO at h
  rcases z_four x h0 h4 with rfl | rfl | rfl | rfl
  · exact h.1.1
  · exact h.1.2.1
  · exact h.1.2.2.1
  · exact h.1.2.2.2
theorem NW.ow {f g w : Nat → Int32} {m : Int32} (h : NW f g w m) (X : Int32) : 0 ≤ X → X < 4 → 0 ≤ f (6 + X).toNatClampNeg ∧ f (6 + X).toNatClampNeg ≤ m := by
  intro h0 h4
  unfold NW NO at h
  rcases z_four X h0 h4 with rfl | rfl | rfl | rfl
  · exact h.2.1
  · exact h.2.2.1
  · exact h.2.2.2.1
  · exact h.2.2.2.2
theorem NW.stn {f g w : Nat → Int32} {m : Int32} {t : Nat} {v b : Int32} (h5 : 0 ≤ v ∧ v ≤ 5) (ht : (t = 0 ∧ b = 0) ∨ (t = 1 ∧ b = 24) ∨ (t = 2 ∧ b = 48) ∨ (t = 3 ∧ b = 72)) (hv : (v = 1 ∨ v = 2 ∨ v = 3) → f (14 + 6 * t) < g t) (hw : (v = 2 ∨ v = 3) → 0 ≤ w (b + f (14 + 6 * t)).toNatClampNeg ∧ w (b + f (14 + 6 * t)).toNatClampNeg ≤ 3) (h : NW f g w m) : NW (zu f (15 + 6 * t) v) g w m := by
  unfold NW NT NO at h ⊢
  simp only [zu]
  rcases ht with ⟨rfl, rfl⟩ | ⟨rfl, rfl⟩ | ⟨rfl, rfl⟩ | ⟨rfl, rfl⟩ <;> grind
/-- what a state becomes when a thread's kind of being changes -/
theorem NW.st {f g w : Nat → Int32} {m : Int32} {r x v : Int32} (h5 : 0 ≤ v ∧ v ≤ 5) (hr : r = 14 + 6 * x) (hx : 0 ≤ x ∧ x < 4) (hv : (v = 1 ∨ v = 2 ∨ v = 3) → f r.toNatClampNeg < g x.toNatClampNeg) (hw : (v = 2 ∨ v = 3) → 0 ≤ w (24 * x + f r.toNatClampNeg).toNatClampNeg ∧ w (24 * x + f r.toNatClampNeg).toNatClampNeg ≤ 3) (h : NW f g w m) : NW (zu f (r + 1).toNatClampNeg v) g w m := by
  subst hr
  rcases z_four x hx.1 hx.2 with rfl | rfl | rfl | rfl
  · exact NW.stn (t := 0) h5 (Or.inl ⟨rfl, rfl⟩) hv hw h
  · exact NW.stn (t := 1) h5 (Or.inr (Or.inl ⟨rfl, rfl⟩)) hv hw h
  · exact NW.stn (t := 2) h5 (Or.inr (Or.inr (Or.inl ⟨rfl, rfl⟩))) hv hw h
  · exact NW.stn (t := 3) h5 (Or.inr (Or.inr (Or.inr ⟨rfl, rfl⟩))) hv hw h
/-- all is well but of one thread -/
def NX (f g w : Nat → Int32) (m x : Int32) : Prop := ((x ≠ 0 → NT f g w 0 0) ∧ (x ≠ 1 → NT f g w 1 24) ∧ (x ≠ 2 → NT f g w 2 48) ∧ (x ≠ 3 → NT f g w 3 72)) ∧ (NO f m 6 ∧ NO f m 7 ∧ NO f m 8 ∧ NO f m 9)
theorem NW.nx {f g w : Nat → Int32} {m : Int32} (h : NW f g w m) (x : Int32) : NX f g w m x := ⟨⟨fun _ => h.1.1, fun _ => h.1.2.1, fun _ => h.1.2.2.1, fun _ => h.1.2.2.2⟩, h.2⟩
theorem NX.stn {f g w : Nat → Int32} {m : Int32} {t : Nat} {v x : Int32} (ht : (t = 0 ∧ x = 0) ∨ (t = 1 ∧ x = 1) ∨ (t = 2 ∧ x = 2) ∨ (t = 3 ∧ x = 3)) {i : Nat} (hi : i = 14 + 6 * t ∨ i = 15 + 6 * t) (h : NX f g w m x) : NX (zu f i v) g w m x := by
  unfold NX NT NO at h ⊢
  simp only [zu]
  rcases ht with ⟨rfl, rfl⟩ | ⟨rfl, rfl⟩ | ⟨rfl, rfl⟩ | ⟨rfl, rfl⟩ <;> rcases hi with rfl | rfl <;> grind
theorem NX.st {f g w : Nat → Int32} {m : Int32} {r x v : Int32} (hr : r = 14 + 6 * x) (hx : 0 ≤ x ∧ x < 4) (h : NX f g w m x) : NX (zu f r.toNatClampNeg v) g w m x ∧ NX (zu f (r + 1).toNatClampNeg v) g w m x := by
  subst hr
  rcases z_four x hx.1 hx.2 with rfl | rfl | rfl | rfl
  · exact ⟨NX.stn (t := 0) (Or.inl ⟨rfl, rfl⟩) (Or.inl rfl) h, NX.stn (t := 0) (Or.inl ⟨rfl, rfl⟩) (Or.inr rfl) h⟩
  · exact ⟨NX.stn (t := 1) (Or.inr (Or.inl ⟨rfl, rfl⟩)) (Or.inl rfl) h, NX.stn (t := 1) (Or.inr (Or.inl ⟨rfl, rfl⟩)) (Or.inr rfl) h⟩
  · exact ⟨NX.stn (t := 2) (Or.inr (Or.inr (Or.inl ⟨rfl, rfl⟩))) (Or.inl rfl) h, NX.stn (t := 2) (Or.inr (Or.inr (Or.inl ⟨rfl, rfl⟩))) (Or.inr rfl) h⟩
  · exact ⟨NX.stn (t := 3) (Or.inr (Or.inr (Or.inr ⟨rfl, rfl⟩))) (Or.inl rfl) h, NX.stn (t := 3) (Or.inr (Or.inr (Or.inr ⟨rfl, rfl⟩))) (Or.inr rfl) h⟩
/-- all is well again when the one thread is -/
theorem NX.back {f g w : Nat → Int32} {m : Int32} {r x : Int32} (hr : r = 14 + 6 * x) (hx : 0 ≤ x ∧ x < 4) (h : NX f g w m x) (h1 : 0 ≤ f r.toNatClampNeg ∧ f r.toNatClampNeg ≤ g x.toNatClampNeg) (h2 : (f (r + 1).toNatClampNeg = 1 ∨ f (r + 1).toNatClampNeg = 2 ∨ f (r + 1).toNatClampNeg = 3) → f r.toNatClampNeg < g x.toNatClampNeg) (h3 : ¬ f (r + 1).toNatClampNeg = 2 ∧ ¬ f (r + 1).toNatClampNeg = 3) (h5 : 0 ≤ f (r + 1).toNatClampNeg ∧ f (r + 1).toNatClampNeg ≤ 5) : NW f g w m := by
  subst hr
  obtain ⟨⟨a0, a1, a2, a3⟩, b⟩ := h
  rcases z_four x hx.1 hx.2 with rfl | rfl | rfl | rfl
  · exact ⟨⟨⟨h1, h2, fun q => absurd q (fun q => q.elim h3.1 h3.2), h5⟩, a1 (by decide), a2 (by decide), a3 (by decide)⟩, b⟩
  · exact ⟨⟨a0 (by decide), ⟨h1, h2, fun q => absurd q (fun q => q.elim h3.1 h3.2), h5⟩, a2 (by decide), a3 (by decide)⟩, b⟩
  · exact ⟨⟨a0 (by decide), a1 (by decide), ⟨h1, h2, fun q => absurd q (fun q => q.elim h3.1 h3.2), h5⟩, a3 (by decide)⟩, b⟩
  · exact ⟨⟨a0 (by decide), a1 (by decide), a2 (by decide), ⟨h1, h2, fun q => absurd q (fun q => q.elim h3.1 h3.2), h5⟩⟩, b⟩
def SK (σ : zS) (k : Nat) (S : Int32) : Prop :=
  (-1 ≤ σ 93 k ∧ σ 93 k ≤ 5) ∧
  ((σ 92 k = 0 ∨ σ 92 k = 1) → 0 ≤ σ 93 k) ∧
  ((σ 92 k = 3 ∨ σ 92 k = 4 ∨ σ 92 k = 7 ∨ σ 92 k = 8 ∨ σ 92 k = 9 ∨ σ 92 k = 10 ∨ σ 92 k = 11) → 0 ≤ σ 93 k ∧ σ 93 k ≤ 3) ∧
  (0 ≤ σ 94 k ∧ σ 94 k ≤ S) ∧
  ((σ 92 k = 5 ∨ σ 92 k = 6) → 0 ≤ σ 95 k ∧ σ 95 k ≤ S) ∧
  ((σ 92 k = 0 ∨ σ 92 k = 2) → 0 ≤ σ 98 k ∧ σ 98 k ≤ 2) ∧
  ((σ 92 k = 1 ∨ σ 92 k = 2 ∨ σ 92 k = 5 ∨ σ 92 k = 6 ∨ σ 92 k = 12) → σ 99 k ≤ 10) ∧
  ((σ 92 k = 5 ∨ σ 92 k = 6 ∨ σ 92 k = 12 ∨ (σ 92 k = 2 ∧ (σ 101 k = 43 ∨ σ 101 k = 45))) → σ 100 k ≤ 10)
theorem SK.w0 {σ : zS} {k : Nat} {S : Int32} (h : SK σ k S) : -1 ≤ σ 93 k ∧ σ 93 k ≤ 5 := h.1
theorem SK.w1 {σ : zS} {k : Nat} {S : Int32} (h : SK σ k S) : (σ 92 k = 0 ∨ σ 92 k = 1) → 0 ≤ σ 93 k := h.2.1
theorem SK.w2 {σ : zS} {k : Nat} {S : Int32} (h : SK σ k S) : (σ 92 k = 3 ∨ σ 92 k = 4 ∨ σ 92 k = 7 ∨ σ 92 k = 8 ∨ σ 92 k = 9 ∨ σ 92 k = 10 ∨ σ 92 k = 11) → 0 ≤ σ 93 k ∧ σ 93 k ≤ 3 := h.2.2.1
theorem SK.bh {σ : zS} {k : Nat} {S : Int32} (h : SK σ k S) : 0 ≤ σ 94 k ∧ σ 94 k ≤ S := h.2.2.2.1
theorem SK.ot {σ : zS} {k : Nat} {S : Int32} (h : SK σ k S) : (σ 92 k = 5 ∨ σ 92 k = 6) → 0 ≤ σ 95 k ∧ σ 95 k ≤ S := h.2.2.2.2.1
theorem SK.it {σ : zS} {k : Nat} {S : Int32} (h : SK σ k S) : (σ 92 k = 0 ∨ σ 92 k = 2) → 0 ≤ σ 98 k ∧ σ 98 k ≤ 2 := h.2.2.2.2.2.1
theorem SK.v1 {σ : zS} {k : Nat} {S : Int32} (h : SK σ k S) : (σ 92 k = 1 ∨ σ 92 k = 2 ∨ σ 92 k = 5 ∨ σ 92 k = 6 ∨ σ 92 k = 12) → σ 99 k ≤ 10 := h.2.2.2.2.2.2.1
theorem SK.v2 {σ : zS} {k : Nat} {S : Int32} (h : SK σ k S) : (σ 92 k = 5 ∨ σ 92 k = 6 ∨ σ 92 k = 12 ∨ (σ 92 k = 2 ∧ (σ 101 k = 43 ∨ σ 101 k = 45))) → σ 100 k ≤ 10 := h.2.2.2.2.2.2.2
def PG (σ : zS) : Prop :=
  (0 ≤ σ 82 15 ∧ σ 82 15 ≤ 6) ∧
  (0 ≤ σ 82 16 ∧ σ 82 16 ≤ 4) ∧
  (0 ≤ σ 82 17 ∧ σ 82 17 ≤ 4) ∧
  (0 ≤ σ 82 25 ∧ σ 82 25 ≤ 6) ∧
  (∀ t, 0 ≤ σ 90 t ∧ σ 90 t ≤ 24) ∧
  (∀ t s : Int32, 0 ≤ t → t < σ 82 17 → 0 ≤ s → s < σ 90 t.toNatClampNeg → SK σ (24 * t + s).toNatClampNeg (σ 90 t.toNatClampNeg)) ∧
  (∀ v : Int32, 0 ≤ v → v < σ 82 25 → 0 ≤ σ 91 v.toNatClampNeg ∧ σ 91 v.toNatClampNeg < σ 82 17)
theorem PG.nf {σ : zS} (h : PG σ) : 0 ≤ σ 82 15 ∧ σ 82 15 ≤ 6 := h.1
theorem PG.nl {σ : zS} (h : PG σ) : 0 ≤ σ 82 16 ∧ σ 82 16 ≤ 4 := h.2.1
theorem PG.nt {σ : zS} (h : PG σ) : 0 ≤ σ 82 17 ∧ σ 82 17 ≤ 4 := h.2.2.1
theorem PG.ns {σ : zS} (h : PG σ) : 0 ≤ σ 82 25 ∧ σ 82 25 ≤ 6 := h.2.2.2.1
theorem PG.st {σ : zS} (h : PG σ) : ∀ t, 0 ≤ σ 90 t ∧ σ 90 t ≤ 24 := h.2.2.2.2.1
theorem PG.ok {σ : zS} (h : PG σ) : ∀ t s : Int32, 0 ≤ t → t < σ 82 17 → 0 ≤ s → s < σ 90 t.toNatClampNeg → SK σ (24 * t + s).toNatClampNeg (σ 90 t.toNatClampNeg) := h.2.2.2.2.2.1
theorem PG.sp {σ : zS} (h : PG σ) : ∀ v : Int32, 0 ≤ v → v < σ 82 25 → 0 ≤ σ 91 v.toNatClampNeg ∧ σ 91 v.toNatClampNeg < σ 82 17 := h.2.2.2.2.2.2
/-- only the state that is looked at has changed -/
def JN (σ0 σ : zS) : Prop :=
  (∀ q, q ≠ 107 → σ q = σ0 q) ∧
  (PG σ) ∧
  (NW (σ 107) (σ 90) (σ 93) (σ 82 17))
theorem JN.fr {σ0 σ : zS} (h : JN σ0 σ) : ∀ q, q ≠ 107 → σ q = σ0 q := h.1
theorem JN.pg {σ0 σ : zS} (h : JN σ0 σ) : PG σ := h.2.1
theorem JN.nw {σ0 σ : zS} (h : JN σ0 σ) : NW (σ 107) (σ 90) (σ 93) (σ 82 17) := h.2.2
/-- the same, but nothing known of the state -/
def JZ (σ0 σ : zS) : Prop :=
  (∀ q, q ≠ 107 → σ q = σ0 q) ∧
  (PG σ)
theorem JZ.fr {σ0 σ : zS} (h : JZ σ0 σ) : ∀ q, q ≠ 107 → σ q = σ0 q := h.1
theorem JZ.pg {σ0 σ : zS} (h : JZ σ0 σ) : PG σ := h.2
theorem PG.of {σ0 σ : zS} (h : ∀ q, 82 ≤ q → q ≤ 101 → σ q = σ0 q) (p : PG σ0) : PG σ := by
  have e82 := h 82 (by decide) (by decide); have e90 := h 90 (by decide) (by decide); have e91 := h 91 (by decide) (by decide)
  have e92 := h 92 (by decide) (by decide); have e93 := h 93 (by decide) (by decide); have e94 := h 94 (by decide) (by decide); have e95 := h 95 (by decide) (by decide)
  have e98 := h 98 (by decide) (by decide); have e99 := h 99 (by decide) (by decide); have e100 := h 100 (by decide) (by decide); have e101 := h 101 (by decide) (by decide)
  obtain ⟨a1, a2, a3, a4, a5, a6, a7⟩ := p
  refine ⟨by rw [e82]; exact a1, by rw [e82]; exact a2, by rw [e82]; exact a3, by rw [e82]; exact a4, by rw [e90]; exact a5, ?_, by rw [e82, e91]; exact a7⟩
  rw [e82, e90]
  intro t s h1 h2 h3 h4
  obtain ⟨b1, b2, b3, b4, b5, b6, b7, b8⟩ := a6 t s h1 h2 h3 h4
  refine ⟨?_, ?_, ?_, ?_, ?_, ?_, ?_, ?_⟩
  all_goals simp only [e92, e93, e94, e95, e98, e99, e100, e101]
  all_goals assumption
theorem JZ.up {σ0 σ : zS} {i : Nat} {v : Int32} (h : JZ σ0 σ) : JZ σ0 (zx_up σ 107 i v) :=
  ⟨fun q hq => by rw [zu_other hq]; exact h.fr q hq, PG.of (fun q _ h2 => zu_other (by omega)) h.pg⟩
theorem JN.z {σ0 σ : zS} (h : JN σ0 σ) : JZ σ0 σ := ⟨h.fr, h.pg⟩
theorem JZ.n {σ0 σ : zS} (h : JZ σ0 σ) (hn : NW (σ 107) (σ 90) (σ 93) (σ 82 17)) : JN σ0 σ := ⟨h.fr, h.pg, hn⟩
theorem NW.at {σ : zS} {i : Nat} {v : Int32} (h : NW (zu (σ 107) i v) (σ 90) (σ 93) (σ 82 17)) : NW (zx_up σ 107 i v 107) (zx_up σ 107 i v 90) (zx_up σ 107 i v 93) (zx_up σ 107 i v 82 17) := by
  rw [zx_up_same, zu_other (by decide), zu_other (by decide), zu_other (by decide)]; exact h
theorem JN.free {σ0 σ : zS} {i : Nat} {v : Int32} (hi : NF i) (h : JN σ0 σ) : JN σ0 (zx_up σ 107 i v) := h.z.up.n (NW.at (h.nw.free hi))
theorem JN.own {σ0 σ : zS} {X v : Int32} (hX : 0 ≤ X ∧ X < 4) (hv : 0 ≤ v ∧ v ≤ σ0 82 17) (h : JN σ0 σ) : JN σ0 (zx_up σ 107 (6 + X).toNatClampNeg v) := h.z.up.n (NW.at (h.nw.own (NI6 hX) (by rw [h.fr 82 (by decide)]; exact hv)))
theorem JN.st {σ0 σ : zS} {r x v : Int32} (h5 : 0 ≤ v ∧ v ≤ 5) (hr : r = 14 + 6 * x) (hx : 0 ≤ x ∧ x < 4) (hv : (v = 1 ∨ v = 2 ∨ v = 3) → σ 107 r.toNatClampNeg < σ 90 x.toNatClampNeg) (hw : (v = 2 ∨ v = 3) → 0 ≤ σ 93 (24 * x + σ 107 r.toNatClampNeg).toNatClampNeg ∧ σ 93 (24 * x + σ 107 r.toNatClampNeg).toNatClampNeg ≤ 3) (h : JN σ0 σ) : JN σ0 (zx_up σ 107 (r + 1).toNatClampNeg v) := h.z.up.n (NW.at (h.nw.st h5 hr hx hv hw))
/-- a state relative to another one: the same, the program too -/
theorem JN.refl {σ0 σ : zS} (h : JN σ0 σ) : JN σ σ := ⟨fun _ _ => rfl, h.pg, h.nw⟩
theorem JN.trans {σ0 σ σ1 : zS} (h : JN σ0 σ) (k : JN σ σ1) : JN σ0 σ1 := ⟨fun q hq => (k.fr q hq).trans (h.fr q hq), k.pg, k.nw⟩
/-! THE REFERENCE'S STATES: what its small methods do -/
theorem q_f_M_at {σ : zS} {x1 : Int32} {Q : Int32 → Prop} (hQ : ∀ r, r = 14 + 6 * x1 → Q r) : zq (zf_M_at σ x1) Q := hQ _ rfl
theorem q_f_M_stateOf {σ : zS} {x1 : Int32} {Q : Int32 → Prop} (hx : 0 ≤ x1 ∧ x1 < 4) (hQ : ∀ r, r = σ 107 (15 + 6 * x1).toNatClampNeg → Q r) : zq (zf_M_stateOf σ x1) Q := by
  unfold zf_M_stateOf
  refine zq_bind (q_f_M_at fun r pr => ?_)
  refine zq_chk (by (first | with_reducible assumption | omega | grind)) fun c1 => ?_
  refine hQ _ ?_
  rw [show r + 1 = 15 + 6 * x1 by (first | with_reducible assumption | omega | grind)]
theorem zk_keep {f : Nat → Int32} {i : Nat} {v x : Int32} (hi : i ≠ 15 ∧ i ≠ 21 ∧ i ≠ 27 ∧ i ≠ 33) (hx : 0 ≤ x ∧ x < 4) : zu f i v (15 + 6 * x).toNatClampNeg = f (15 + 6 * x).toNatClampNeg := by
  unfold zu
  rcases z_four x hx.1 hx.2 with rfl | rfl | rfl | rfl
  · exact if_neg (fun q => hi.1 (q.symm.trans rfl))
  · exact if_neg (fun q => hi.2.1 (q.symm.trans rfl))
  · exact if_neg (fun q => hi.2.2.1 (q.symm.trans rfl))
  · exact if_neg (fun q => hi.2.2.2 (q.symm.trans rfl))
theorem NF.k {i : Nat} (h : NF i) : i ≠ 15 ∧ i ≠ 21 ∧ i ≠ 27 ∧ i ≠ 33 := by unfold NF at h; omega
theorem q_f_M_letGo {N : Nat} (hN : zBig ≤ N) {σ0 σ : zS} {x1 : Int32} {Q : zS → Prop} (hJ : JN σ0 σ) (hQ : ∀ r, JN σ0 r → (∀ i, 14 ≤ i → r 107 i = σ 107 i) → Q r) : zq (zf_M_letGo N σ x1) Q := by
  have H : ∀ (n : Nat) (ρ : zS) (v2 : Int32), JN σ0 ρ → (∀ i, 14 ≤ i → ρ 107 i = σ 107 i) → 0 ≤ v2 → zmu v2 < n → zq (zb_M_letGo_2 N n ρ x1 v2) Q := by
    intro n
    induction n with
    | zero => intro _ _ _ _ _ hn; exact absurd hn (Nat.not_lt_zero _)
    | succ n ih =>
      intro ρ v2 hj hk h0 hn
      rw [zb_M_letGo_2]
      refine zq_ite (fun c1 => ?_) fun c1 => ?_
      · exact hQ _ hj hk
      · refine zq_chk (by (first | with_reducible assumption | omega | grind)) fun c2 => ?_
        refine zq_ite (fun c3 => ?_) fun c3 => ?_
        · exact ih _ (v2 + 1) hj hk (by (first | with_reducible assumption | omega | grind)) (zmu_up c1 hn)
        · refine zq_chk (by (first | with_reducible assumption | omega | grind)) fun c4 => ?_
          refine zq_chk (by (first | with_reducible assumption | omega | grind)) fun c5 => ?_
          have hX : 0 ≤ v2 ∧ v2 < 4 := by (first | with_reducible assumption | omega | grind)
          refine ih _ (v2 + 1) (JN.free (NF10 hX) (JN.own hX (by have := hJ.pg.nt; have := hJ.fr 82 (by decide); grind) hj)) ?_ (by (first | with_reducible assumption | omega | grind)) (zmu_up c1 hn)
          intro i hi
          have e1 : (6 + v2).toNatClampNeg < 14 := by rcases z_four v2 hX.1 hX.2 with rfl | rfl | rfl | rfl <;> decide
          have e2 : (10 + v2).toNatClampNeg < 14 := by rcases z_four v2 hX.1 hX.2 with rfl | rfl | rfl | rfl <;> decide
          rw [zx_up_same, zx_up_same, ← hk i hi]
          unfold zu
          rw [if_neg (by omega), if_neg (by omega)]
  exact H N σ 0 hJ (fun _ _ => rfl) (by decide) (zmu_lt hN _)
theorem z_s14 {x : Int32} (hx : 0 ≤ x ∧ x < 4) : 14 ≤ (15 + 6 * x).toNatClampNeg := by rcases z_four x hx.1 hx.2 with rfl | rfl | rfl | rfl <;> decide
theorem z_at1 {r x : Int32} (hr : r = 14 + 6 * x) : (r + 1).toNatClampNeg = (15 + 6 * x).toNatClampNeg := by rw [show r + 1 = 15 + 6 * x by (first | with_reducible assumption | omega | grind)]
theorem zu_ne {f : Nat → Int32} {i j : Nat} {v : Int32} (h : j ≠ i) : zu f i v j = f j := if_neg h
theorem zu_eq {f : Nat → Int32} {i : Nat} {v : Int32} : zu f i v i = v := if_pos rfl
theorem z_at_ne {x y : Int32} (hx : 0 ≤ x ∧ x < 4) (hy : 0 ≤ y ∧ y < 4) : (15 + 6 * x).toNatClampNeg ≠ (14 + 6 * y).toNatClampNeg ∧ (x ≠ y → (15 + 6 * x).toNatClampNeg ≠ (15 + 6 * y).toNatClampNeg) := by
  rcases z_four x hx.1 hx.2 with rfl | rfl | rfl | rfl <;> rcases z_four y hy.1 hy.2 with rfl | rfl | rfl | rfl <;> decide
/-- states of other threads are as they were -/
def SO (σ r : zS) (x : Int32) : Prop := ∀ t : Int32, 0 ≤ t → t < 4 → t ≠ x → r 107 (15 + 6 * t).toNatClampNeg = σ 107 (15 + 6 * t).toNatClampNeg
theorem q_f_M_goTo {N : Nat} (hN : zBig ≤ N) {σ0 σ : zS} {x1 x2 : Int32} {Q : zS → Prop} (hx : 0 ≤ x1 ∧ x1 < 4) (hJ : JZ σ0 σ) (hX : NX (σ 107) (σ 90) (σ 93) (σ 82 17) x1) (hs : 0 ≤ x2 ∧ x2 ≤ σ 90 x1.toNatClampNeg) (h1 : ¬ σ 107 (15 + 6 * x1).toNatClampNeg = 2 ∧ ¬ σ 107 (15 + 6 * x1).toNatClampNeg = 3) (h5 : 0 ≤ σ 107 (15 + 6 * x1).toNatClampNeg ∧ σ 107 (15 + 6 * x1).toNatClampNeg ≤ 5) (hQ : ∀ r, JN σ0 r → SO σ r x1 → Q r) : zq (zf_M_goTo N σ x1 x2) Q := by
  unfold zf_M_goTo
  refine zq_bind (q_f_M_at fun r1 pr1 => ?_)
  refine zq_chk (by (first | with_reducible assumption | omega | grind)) fun c1 => ?_
  refine zq_chk (by (first | with_reducible assumption | omega | grind)) fun c2 => ?_
  have hX1 := (NX.st (v := x2) pr1 hx hX).1
  have ne := (z_at_ne hx hx).1
  have e1 : zu (σ 107) r1.toNatClampNeg x2 (r1 + 1).toNatClampNeg = σ 107 (15 + 6 * x1).toNatClampNeg := by
    rw [z_at1 pr1]; exact zu_ne (by rw [pr1]; exact ne)
  refine zq_ite (fun c3 => ?_) fun c3 => ?_
  · refine hQ _ (hJ.up.n (NW.at ?_)) ?_
    · refine NX.back pr1 hx hX1 ?_ ?_ ?_ ?_
      · rw [zu_eq]; exact hs
      · intro _; rw [zu_eq]; grind
      · rw [e1]; exact h1
      · rw [e1]; exact h5
    · intro t t0 t4 tn
      rw [zx_up_same]
      exact zu_ne (by rw [pr1]; exact (z_at_ne ⟨t0, t4⟩ hx).1)
  · refine zq_bind (q_f_M_at fun r5 pr5 => ?_)
    refine zq_chk (by (first | with_reducible assumption | omega | grind)) fun c4 => ?_
    have e51 : r5 = r1 := pr5.trans pr1.symm
    subst e51
    have hX2 := (NX.st (v := 4) pr5 hx hX1).2
    refine zq_bind (q_f_M_letGo hN (JZ.n hJ.up.up (NW.at ?_)) fun r7 j7 k7 => hQ _ j7 ?_)
    · rw [zx_up_same, zu_other (by decide), zu_other (by decide), zu_other (by decide)]
      refine NX.back pr5 hx hX2 ?_ ?_ ?_ ?_
      · rw [zu_ne (by rw [z_at1 pr5, pr5]; exact ne.symm), zu_eq]; exact hs
      · intro q; rw [zu_eq] at q; exact absurd q (by decide)
      · rw [zu_eq]; decide
      · rw [zu_eq]; decide
    · intro t t0 t4 tn
      rw [k7 _ (z_s14 ⟨t0, t4⟩), zx_up_same, zx_up_same]
      rw [zu_ne (by rw [z_at1 pr5]; exact (z_at_ne ⟨t0, t4⟩ hx).2 tn), zu_ne (by rw [pr5]; exact (z_at_ne ⟨t0, t4⟩ hx).1)]
theorem q_f_M_begin {N : Nat} (hN : zBig ≤ N) {σ0 σ : zS} {x1 : Int32} {Q : zS → Prop} (hx : 0 ≤ x1 ∧ x1 < 4) (hJ : JN σ0 σ) (hQ : ∀ r, JN σ0 r → SO σ r x1 → Q r) : zq (zf_M_begin N σ x1) Q := by
  unfold zf_M_begin
  refine zq_bind (q_f_M_at fun r1 pr1 => ?_)
  refine zq_chk (by (first | with_reducible assumption | omega | grind)) fun c1 => ?_
  refine zq_bind (q_f_M_goTo hN hx hJ.z.up ?_ ?_ ?_ ?_ fun r3 j3 k3 => hQ _ j3 ?_)
  · rw [zx_up_same, zu_other (by decide), zu_other (by decide), zu_other (by decide)]
    exact (NX.st pr1 hx (hJ.nw.nx x1)).2
  · exact ⟨by decide, (hJ.pg.st _).1⟩
  · rw [zx_up_same, ← z_at1 pr1, zu_eq]; decide
  · rw [zx_up_same, ← z_at1 pr1, zu_eq]; decide
  · intro t t0 t4 tn
    rw [k3 t t0 t4 tn, zx_up_same, zu_ne (by rw [z_at1 pr1]; exact (z_at_ne ⟨t0, t4⟩ hx).2 tn)]
theorem q_f_M_failing {N : Nat} (hN : zBig ≤ N) {σ0 σ : zS} {x1 : Int32} {Q : zS → Prop} (hx : 0 ≤ x1 ∧ x1 < 4) (hJ : JN σ0 σ) (hQ : ∀ r, JN σ0 r → Q r) : zq (zf_M_failing N σ x1) Q := by
  unfold zf_M_failing
  refine zq_bind (q_f_M_at fun r1 pr1 => ?_)
  refine zq_chk (by (first | with_reducible assumption | omega | grind)) fun c1 => ?_
  exact zq_bind (q_f_M_letGo hN (JN.st (by decide) pr1 hx (fun q => absurd q (by decide)) (fun q => absurd q (by decide)) hJ) fun r3 j3 k3 => hQ _ j3)
theorem q_f_M_wake {N : Nat} (hN : zBig ≤ N) {σ0 σ : zS} {x1 x2 : Int32} {Q : zS → Prop} (hJ : JN σ0 σ) (hQ : ∀ r, JN σ0 r → (∀ t : Int32, 0 ≤ t → t < 4 → σ 107 (15 + 6 * t).toNatClampNeg ≠ 2 → r 107 (15 + 6 * t).toNatClampNeg = σ 107 (15 + 6 * t).toNatClampNeg) → Q r) : zq (zf_M_wake N σ x1 x2) Q := by
  have H : ∀ (n : Nat) (ρ : zS) (v3 v4 : Int32), JN σ0 ρ → (∀ t : Int32, 0 ≤ t → t < 4 → σ 107 (15 + 6 * t).toNatClampNeg ≠ 2 → ρ 107 (15 + 6 * t).toNatClampNeg = σ 107 (15 + 6 * t).toNatClampNeg) → 0 ≤ v4 → zmu v4 < n → zq (zb_M_wake_5 N n ρ x1 x2 v3 v4) Q := by
    intro n
    induction n with
    | zero => intro _ _ _ _ _ _ hn; exact absurd hn (Nat.not_lt_zero _)
    | succ n ih =>
      intro ρ v3 v4 hj hk h0 hn
      rw [zb_M_wake_5]
      refine zq_ite (fun c1 => ?_) fun c1 => ?_
      · exact hQ _ hj hk
      · have n4 := hj.pg.nt
        have hx : 0 ≤ v4 ∧ v4 < 4 := by (first | with_reducible assumption | omega | grind)
        refine zq_ite (fun c2 => ?_) fun c2 => ?_
        · exact hQ _ hj hk
        · refine zq_bind (q_f_M_stateOf hx fun r3 pr3 => ?_)
          refine zq_ite (fun c3 => ?_) fun c3 => ?_
          · exact ih _ _ (v4 + 1) hj hk (by (first | with_reducible assumption | omega | grind)) (zmu_up c1 hn)
          · refine zq_bind (q_f_M_at fun r5 pr5 => ?_)
            have hr := hj.nw.rd r5 v4 pr5 hx.1 hx.2
            have hs := hj.pg.st v4.toNatClampNeg
            refine zq_chk (by (first | with_reducible assumption | omega | grind)) fun c4 => ?_
            refine zq_chk (by (first | with_reducible assumption | omega | grind)) fun c5 => ?_
            refine zq_ite (fun c6 => ?_) fun c6 => ?_
            · exact ih _ _ (v4 + 1) hj hk (by (first | with_reducible assumption | omega | grind)) (zmu_up c1 hn)
            · refine zq_bind (q_f_M_at fun r9 pr9 => ?_)
              have e : r9 = r5 := pr9.trans pr5.symm
              subst e
              refine zq_chk (by (first | with_reducible assumption | omega | grind)) fun c7 => ?_
              refine ih _ _ (v4 + 1) (JN.st (by decide) pr5 hx (fun _ => hr.2.1 (by (first | with_reducible assumption | omega | grind))) (fun _ => hr.2.2.1 (by (first | with_reducible assumption | omega | grind))) hj) ?_ (by (first | with_reducible assumption | omega | grind)) (zmu_up c1 hn)
              intro t t0 t4 tn
              rw [zx_up_same, z_at1 pr5]
              by_cases q : t = v4
              · subst q
                exact absurd (hk t t0 t4 tn) (fun w => tn (by rw [← w, ← pr3]; grind))
              · rw [zu_ne ((z_at_ne ⟨t0, t4⟩ hx).2 q)]
                exact hk t t0 t4 tn
  exact H N σ 1 0 hJ (fun _ _ _ _ => rfl) (by decide) (zmu_lt hN _)
/-! A STEP OF A THREAD THAT RUNS -/
def JD (x : Int32) (σ0 σ : zS) : Prop :=
  (JN σ0 σ) ∧
  (0 ≤ x ∧ x < 4) ∧
  (σ 107 (15 + 6 * x).toNatClampNeg = 1) ∧
  (x < σ0 82 17)
theorem JD.n {x : Int32} {σ0 σ : zS} (h : JD x σ0 σ) : JN σ0 σ := h.1
theorem JD.hx {x : Int32} {σ0 σ : zS} (h : JD x σ0 σ) : 0 ≤ x ∧ x < 4 := h.2.1
theorem JD.s {x : Int32} {σ0 σ : zS} (h : JD x σ0 σ) : σ 107 (15 + 6 * x).toNatClampNeg = 1 := h.2.2.1
theorem JD.xt {x : Int32} {σ0 σ : zS} (h : JD x σ0 σ) : x < σ0 82 17 := h.2.2.2
theorem JD.s2 {x : Int32} {σ0 σ : zS} (h : JD x σ0 σ) : ¬ σ 107 (15 + 6 * x).toNatClampNeg = 2 ∧ ¬ σ 107 (15 + 6 * x).toNatClampNeg = 3 := by rw [h.s]; decide
theorem JD.s5 {x : Int32} {σ0 σ : zS} (h : JD x σ0 σ) : 0 ≤ σ 107 (15 + 6 * x).toNatClampNeg ∧ σ 107 (15 + 6 * x).toNatClampNeg ≤ 5 := by rw [h.s]; decide
theorem JD.free {x : Int32} {σ0 σ : zS} {i : Nat} {v : Int32} (hi : NF i) (h : JD x σ0 σ) : JD x σ0 (zx_up σ 107 i v) :=
  ⟨h.n.free hi, h.hx, by rw [zx_up_same, zk_keep hi.k h.hx]; exact h.s, h.xt⟩
theorem z_own_k {X : Int32} (hX : 0 ≤ X ∧ X < 4) : (6 + X).toNatClampNeg ≠ 15 ∧ (6 + X).toNatClampNeg ≠ 21 ∧ (6 + X).toNatClampNeg ≠ 27 ∧ (6 + X).toNatClampNeg ≠ 33 := by
  rcases z_four X hX.1 hX.2 with rfl | rfl | rfl | rfl <;> decide
theorem JD.own {x : Int32} {σ0 σ : zS} {X v : Int32} (hX : 0 ≤ X ∧ X < 4) (hv : 0 ≤ v ∧ v ≤ σ0 82 17) (h : JD x σ0 σ) : JD x σ0 (zx_up σ 107 (6 + X).toNatClampNeg v) :=
  ⟨h.n.own hX hv, h.hx, by rw [zx_up_same, zk_keep (z_own_k hX) h.hx]; exact h.s, h.xt⟩
theorem JD.wk {x : Int32} {σ0 σ r : zS} (h : JD x σ0 σ) (j : JN σ0 r) (k : ∀ t : Int32, 0 ≤ t → t < 4 → σ 107 (15 + 6 * t).toNatClampNeg ≠ 2 → r 107 (15 + 6 * t).toNatClampNeg = σ 107 (15 + 6 * t).toNatClampNeg) : JD x σ0 r :=
  ⟨j, h.hx, by rw [k x h.hx.1 h.hx.2 (by rw [h.s]; decide)]; exact h.s, h.xt⟩
theorem JD.bg {x y : Int32} {σ0 σ r : zS} (h : JD x σ0 σ) (hz : σ 107 (15 + 6 * y).toNatClampNeg = 0) (j : JN σ0 r) (k : SO σ r y) : JD x σ0 r :=
  ⟨j, h.hx, by
    rw [k x h.hx.1 h.hx.2 (fun e => by
      subst e
      rw [h.s] at hz
      exact absurd hz (by decide))]
    exact h.s, h.xt⟩
theorem z_at0_keep {f : Nat → Int32} {i : Nat} {v x : Int32} (hi : i ≠ 14 ∧ i ≠ 20 ∧ i ≠ 26 ∧ i ≠ 32) (hx : 0 ≤ x ∧ x < 4) : zu f i v (14 + 6 * x).toNatClampNeg = f (14 + 6 * x).toNatClampNeg := by
  unfold zu
  rcases z_four x hx.1 hx.2 with rfl | rfl | rfl | rfl
  · exact if_neg (fun q => hi.1 (q.symm.trans rfl))
  · exact if_neg (fun q => hi.2.1 (q.symm.trans rfl))
  · exact if_neg (fun q => hi.2.2.1 (q.symm.trans rfl))
  · exact if_neg (fun q => hi.2.2.2 (q.symm.trans rfl))
theorem NF.k0 {i : Nat} (h : NF i) : i ≠ 14 ∧ i ≠ 20 ∧ i ≠ 26 ∧ i ≠ 32 := by unfold NF at h; omega
theorem z_own_k0 {X : Int32} (hX : 0 ≤ X ∧ X < 4) : (6 + X).toNatClampNeg ≠ 14 ∧ (6 + X).toNatClampNeg ≠ 20 ∧ (6 + X).toNatClampNeg ≠ 26 ∧ (6 + X).toNatClampNeg ≠ 32 := by
  rcases z_four X hX.1 hX.2 with rfl | rfl | rfl | rfl <;> decide
theorem JD.wait {x k r46 r51 v3 u : Int32} {σ0 σ : zS} (P : JD x σ0 σ) (hp : k = 24 * x + σ 107 (14 + 6 * x).toNatClampNeg) (hk : 0 ≤ σ 93 k.toNatClampNeg ∧ σ 93 k.toNatClampNeg ≤ 3) (hv3 : 0 ≤ v3 ∧ v3 < 4) (h46 : r46 = 14 + 6 * x) (h51 : r51 = 14 + 6 * x) : JN σ0 (zx_up (zx_up (zx_up (zx_up σ 107 (r46 + 5).toNatClampNeg u) 107 (6 + v3).toNatClampNeg 0) 107 (10 + v3).toNatClampNeg 0) 107 (r51 + 1).toNatClampNeg 2) := by
  have P3 := JD.free (v := 0) (NF10 hv3) (JD.own (v := 0) hv3 (by have := P.xt; have := P.hx; grind) (JD.free (v := u) (NF5 h46 P.hx) P))
  have e : (zx_up (zx_up (zx_up σ 107 (r46 + 5).toNatClampNeg u) 107 (6 + v3).toNatClampNeg 0) 107 (10 + v3).toNatClampNeg 0) 107 r51.toNatClampNeg = σ 107 (14 + 6 * x).toNatClampNeg := by
    rw [h51, zx_up_same, z_at0_keep (NF10 hv3).k0 P.hx, zx_up_same, z_at0_keep (z_own_k0 hv3) P.hx, zx_up_same, z_at0_keep (NF5 h46 P.hx).k0 P.hx]
  refine JN.st (by decide) h51 P.hx (fun _ => (P3.n.nw.rd r51 x h51 P.hx.1 P.hx.2).2.1 (Or.inl P3.s)) (fun _ => ?_) P3.n
  rw [e, ← hp]
  exact hk
theorem q_f_M_valueOf {σ : zS} {x1 x2 : Int32} {Q : Int32 → Prop} (hx : 0 ≤ x1 ∧ x1 < 4) (h2 : x2 ≤ 10) (hQ : ∀ r, Q r) : zq (zf_M_valueOf σ x1 x2) Q := by
  unfold zf_M_valueOf
  refine zq_ite (fun c1 => ?_) fun c1 => ?_
  · refine zq_bind (q_f_M_at fun r2 pr2 => ?_)
    refine zq_chk (by (first | with_reducible assumption | omega | grind)) fun c2 => ?_
    exact hQ _
  · exact hQ _
theorem q_f_M_isSo {σ : zS} {x1 x2 : Int32} {Q : Int32 → Prop} (hx : 0 ≤ x1 ∧ x1 < 4) (h2 : 0 ≤ x2 ∧ x2 < 96) (h3 : σ 99 x2.toNatClampNeg ≤ 10) (h4 : σ 100 x2.toNatClampNeg ≤ 10) (hQ : ∀ r, Q r) : zq (zf_M_isSo σ x1 x2) Q := by
  unfold zf_M_isSo
  refine zq_chk h2 fun _ => ?_
  refine zq_bind (q_f_M_valueOf hx h3 fun r2 => ?_)
  refine zq_chk h2 fun _ => ?_
  refine zq_bind (q_f_M_valueOf hx h4 fun r4 => ?_)
  refine zq_chk h2 fun _ => ?_
  refine zq_ite (fun c1 => ?_) fun c1 => ?_
  · refine zq_chk h2 fun _ => ?_
    refine zq_ite (fun c2 => ?_) fun c2 => ?_
    · refine zq_chk h2 fun _ => ?_
      refine zq_ite (fun c3 => ?_) fun c3 => ?_
      · exact zq_ite (fun _ => hQ _) fun _ => hQ _
      · exact zq_ite (fun _ => hQ _) fun _ => hQ _
    · exact zq_ite (fun _ => hQ _) fun _ => hQ _
  · exact zq_ite (fun _ => hQ _) fun _ => hQ _
theorem q_f_M_in {σ : zS} {x1 x2 x3 : Int32} {Q : Int32 → Prop} (hQ : ∀ r, ((r = 1 ∧ x2 ≤ x1 ∧ x1 ≤ x3) ∨ (r = 0 ∧ ¬ (x2 ≤ x1 ∧ x1 ≤ x3))) → Q r) : zq (zf_M_in σ x1 x2 x3) Q := by
  unfold zf_M_in
  repeat' (first | refine zq_ite (fun _ => ?_) fun _ => ?_ | (refine hQ _ ?_; grind) )
theorem JN.eq {σ0 σ r : zS} (a : JN σ0 σ) (b : JN σ0 r) {q : Nat} (hq : q ≠ 107) : r q = σ q := (b.fr q hq).trans (a.fr q hq).symm
theorem q_b_M_doStep_139 {N : Nat} (hN : zBig ≤ N) {σ0 : zS} {σ : zS} {v1 : Int32} {v2 : Int32} {v3 : Int32} {s0 : Int32} {Q : (zS) → Prop} (hJ : JD v1 σ0 σ) (hI : v3 = (σ 93 v2.toNatClampNeg) ∧ (0 ≤ v2 ∧ v2 < 96) ∧ SK σ v2.toNatClampNeg (σ 90 v1.toNatClampNeg) ∧ v2 = 24 * v1 + σ 107 (14 + 6 * v1).toNatClampNeg) (hQ : ∀ r, JN σ0 r → Q r) : zq (zb_M_doStep_139 N σ v1 v2 v3 s0) Q := by
  unfold zb_M_doStep_139
  obtain ⟨i1, i2, i3, i4⟩ := hI
  obtain ⟨k1, k2, k3, k4, k5, k6, k7, k8⟩ := i3
  have hst := hJ.n.pg.st v1.toNatClampNeg
  have hx := hJ.hx
  have hxt := hJ.xt
  refine zq_chk (by (first | with_reducible assumption | omega | grind)) fun c1 => ?_
  refine zq_ite (fun c2 => ?_) fun c2 => ?_
  ·
    refine zq_bind (q_f_M_at  fun r86 pr86 => ?_)
    refine zq_chk (by (first | with_reducible assumption | omega | grind)) fun c3 => ?_
    refine zq_chk (by (first | with_reducible assumption | omega | grind)) fun c4 => ?_
    refine zq_chk (by (first | with_reducible assumption | omega | grind)) fun c5 => ?_
    show zq (zb_M_doStep_618 N (zx_up σ 107 ((r86 + 2) + (σ 98 v2.toNatClampNeg)).toNatClampNeg (σ 107 v3.toNatClampNeg)) v1 v2) Q
    unfold zb_M_doStep_618
    refine zq_chk (by (first | with_reducible assumption | omega | grind)) fun c6 => ?_
    have Pr25 : JD v1 σ0 (zx_up σ 107 ((r86 + 2) + (σ 98 v2.toNatClampNeg)).toNatClampNeg (σ 107 v3.toNatClampNeg)) := (JD.free (NF2 pr86 hx (by (first | with_reducible assumption | omega | grind))) hJ)
    refine zq_bind (q_f_M_goTo hN Pr25.hx Pr25.n.z (Pr25.n.nw.nx _) (by first | exact k4 | exact k5 (by (first | with_reducible assumption | omega | grind)) | exact ⟨by (first | with_reducible assumption | omega | grind), by (first | with_reducible assumption | omega | grind)⟩) Pr25.s2 Pr25.s5 fun r25 jr25 kr25 => ?_)
    exact hQ _ jr25
  ·
    refine zq_ite (fun c7 => ?_) fun c7 => ?_
    ·
      refine zq_chk (by (first | with_reducible assumption | omega | grind)) fun c8 => ?_
      refine zq_bind (q_f_M_valueOf (by (first | with_reducible assumption | omega | grind)) (by (first | with_reducible assumption | omega | grind)) fun r84 => ?_)
      refine zq_chk (by (first | with_reducible assumption | omega | grind)) fun c9 => ?_
      show zq (zb_M_doStep_618 N (zx_up σ 107 v3.toNatClampNeg r84) v1 v2) Q
      unfold zb_M_doStep_618
      refine zq_chk (by (first | with_reducible assumption | omega | grind)) fun c10 => ?_
      have Pr25 : JD v1 σ0 (zx_up σ 107 v3.toNatClampNeg r84) := (JD.free (NFv (by (first | with_reducible assumption | omega | grind))) hJ)
      refine zq_bind (q_f_M_goTo hN Pr25.hx Pr25.n.z (Pr25.n.nw.nx _) (by first | exact k4 | exact k5 (by (first | with_reducible assumption | omega | grind)) | exact ⟨by (first | with_reducible assumption | omega | grind), by (first | with_reducible assumption | omega | grind)⟩) Pr25.s2 Pr25.s5 fun r25 jr25 kr25 => ?_)
      exact hQ _ jr25
    ·
      refine zq_ite (fun c11 => ?_) fun c11 => ?_
      ·
        refine zq_chk (by (first | with_reducible assumption | omega | grind)) fun c12 => ?_
        refine zq_bind (q_f_M_valueOf (by (first | with_reducible assumption | omega | grind)) (by (first | with_reducible assumption | omega | grind)) fun r71 => ?_)
        refine zq_chk (by (first | with_reducible assumption | omega | grind)) fun c13 => ?_
        refine zq_ite (fun c14 => ?_) fun c14 => ?_
        ·
          refine zq_chk (by (first | with_reducible assumption | omega | grind)) fun c15 => ?_
          refine zq_ite (fun c16 => ?_) fun c16 => ?_
          ·
            show zq (zb_M_doStep_335 N σ v1 v2 r71) Q
            unfold zb_M_doStep_335
            refine zq_bind (q_f_M_at  fun r76 pr76 => ?_)
            refine zq_chk (by (first | with_reducible assumption | omega | grind)) fun c17 => ?_
            refine zq_chk (by (first | with_reducible assumption | omega | grind)) fun c18 => ?_
            show zq (zb_M_doStep_618 N (zx_up σ 107 ((r76 + 2) + (σ 98 v2.toNatClampNeg)).toNatClampNeg (r71 &&& 7)) v1 v2) Q
            unfold zb_M_doStep_618
            refine zq_chk (by (first | with_reducible assumption | omega | grind)) fun c19 => ?_
            have Pr25 : JD v1 σ0 (zx_up σ 107 ((r76 + 2) + (σ 98 v2.toNatClampNeg)).toNatClampNeg (r71 &&& 7)) := (JD.free (NF2 pr76 hx (by (first | with_reducible assumption | omega | grind))) hJ)
            refine zq_bind (q_f_M_goTo hN Pr25.hx Pr25.n.z (Pr25.n.nw.nx _) (by first | exact k4 | exact k5 (by (first | with_reducible assumption | omega | grind)) | exact ⟨by (first | with_reducible assumption | omega | grind), by (first | with_reducible assumption | omega | grind)⟩) Pr25.s2 Pr25.s5 fun r25 jr25 kr25 => ?_)
            exact hQ _ jr25
          ·
            refine zq_chk (by (first | with_reducible assumption | omega | grind)) fun c20 => ?_
            refine zq_bind (q_f_M_valueOf (by (first | with_reducible assumption | omega | grind)) (by (first | with_reducible assumption | omega | grind)) fun r80 => ?_)
            show zq (zb_M_doStep_335 N σ v1 v2 (r71 - r80)) Q
            unfold zb_M_doStep_335
            refine zq_bind (q_f_M_at  fun r76 pr76 => ?_)
            refine zq_chk (by (first | with_reducible assumption | omega | grind)) fun c21 => ?_
            refine zq_chk (by (first | with_reducible assumption | omega | grind)) fun c22 => ?_
            show zq (zb_M_doStep_618 N (zx_up σ 107 ((r76 + 2) + (σ 98 v2.toNatClampNeg)).toNatClampNeg ((r71 - r80) &&& 7)) v1 v2) Q
            unfold zb_M_doStep_618
            refine zq_chk (by (first | with_reducible assumption | omega | grind)) fun c23 => ?_
            have Pr25 : JD v1 σ0 (zx_up σ 107 ((r76 + 2) + (σ 98 v2.toNatClampNeg)).toNatClampNeg ((r71 - r80) &&& 7)) := (JD.free (NF2 pr76 hx (by (first | with_reducible assumption | omega | grind))) hJ)
            refine zq_bind (q_f_M_goTo hN Pr25.hx Pr25.n.z (Pr25.n.nw.nx _) (by first | exact k4 | exact k5 (by (first | with_reducible assumption | omega | grind)) | exact ⟨by (first | with_reducible assumption | omega | grind), by (first | with_reducible assumption | omega | grind)⟩) Pr25.s2 Pr25.s5 fun r25 jr25 kr25 => ?_)
            exact hQ _ jr25
        ·
          refine zq_chk (by (first | with_reducible assumption | omega | grind)) fun c24 => ?_
          refine zq_bind (q_f_M_valueOf (by (first | with_reducible assumption | omega | grind)) (by (first | with_reducible assumption | omega | grind)) fun r82 => ?_)
          show zq (zb_M_doStep_335 N σ v1 v2 (r71 + r82)) Q
          unfold zb_M_doStep_335
          refine zq_bind (q_f_M_at  fun r76 pr76 => ?_)
          refine zq_chk (by (first | with_reducible assumption | omega | grind)) fun c25 => ?_
          refine zq_chk (by (first | with_reducible assumption | omega | grind)) fun c26 => ?_
          show zq (zb_M_doStep_618 N (zx_up σ 107 ((r76 + 2) + (σ 98 v2.toNatClampNeg)).toNatClampNeg ((r71 + r82) &&& 7)) v1 v2) Q
          unfold zb_M_doStep_618
          refine zq_chk (by (first | with_reducible assumption | omega | grind)) fun c27 => ?_
          have Pr25 : JD v1 σ0 (zx_up σ 107 ((r76 + 2) + (σ 98 v2.toNatClampNeg)).toNatClampNeg ((r71 + r82) &&& 7)) := (JD.free (NF2 pr76 hx (by (first | with_reducible assumption | omega | grind))) hJ)
          refine zq_bind (q_f_M_goTo hN Pr25.hx Pr25.n.z (Pr25.n.nw.nx _) (by first | exact k4 | exact k5 (by (first | with_reducible assumption | omega | grind)) | exact ⟨by (first | with_reducible assumption | omega | grind), by (first | with_reducible assumption | omega | grind)⟩) Pr25.s2 Pr25.s5 fun r25 jr25 kr25 => ?_)
          exact hQ _ jr25
      ·
        refine zq_ite (fun c28 => ?_) fun c28 => ?_
        ·
          refine zq_chk (by (first | with_reducible assumption | omega | grind)) fun c29 => ?_
          refine zq_chk (by (first | with_reducible assumption | omega | grind)) fun c30 => ?_
          refine zq_chk (by (first | with_reducible assumption | omega | grind)) fun c31 => ?_
          show zq (zb_M_doStep_618 N (zx_up (zx_up σ 107 (6 + v3).toNatClampNeg (v1 + 1)) 107 (10 + v3).toNatClampNeg (((zx_up σ 107 (6 + v3).toNatClampNeg (v1 + 1)) 107 (10 + v3).toNatClampNeg) + 1)) v1 v2) Q
          unfold zb_M_doStep_618
          refine zq_chk (by (first | with_reducible assumption | omega | grind)) fun c32 => ?_
          have Pr25 : JD v1 σ0 (zx_up (zx_up σ 107 (6 + v3).toNatClampNeg (v1 + 1)) 107 (10 + v3).toNatClampNeg (((zx_up σ 107 (6 + v3).toNatClampNeg (v1 + 1)) 107 (10 + v3).toNatClampNeg) + 1)) := (JD.free (NF10 (by (first | with_reducible assumption | omega | grind))) (JD.own (by (first | with_reducible assumption | omega | grind)) (by (first | with_reducible assumption | omega | grind)) hJ))
          refine zq_bind (q_f_M_goTo hN Pr25.hx Pr25.n.z (Pr25.n.nw.nx _) (by first | exact k4 | exact k5 (by (first | with_reducible assumption | omega | grind)) | exact ⟨by (first | with_reducible assumption | omega | grind), by (first | with_reducible assumption | omega | grind)⟩) Pr25.s2 Pr25.s5 fun r25 jr25 kr25 => ?_)
          exact hQ _ jr25
        ·
          refine zq_ite (fun c33 => ?_) fun c33 => ?_
          ·
            refine zq_chk (by (first | with_reducible assumption | omega | grind)) fun c34 => ?_
            refine zq_chk (by (first | with_reducible assumption | omega | grind)) fun c35 => ?_
            refine zq_chk (by (first | with_reducible assumption | omega | grind)) fun c36 => ?_
            refine zq_ite (fun c37 => ?_) fun c37 => ?_
            ·
              show zq (zb_M_doStep_432 N (zx_up σ 107 (10 + v3).toNatClampNeg ((σ 107 (10 + v3).toNatClampNeg) - 1)) v1 v2 (v1 + 1) (6 + v3)) Q
              unfold zb_M_doStep_432
              refine zq_chk (by (first | with_reducible assumption | omega | grind)) fun c38 => ?_
              show zq (zb_M_doStep_618 N (zx_up (zx_up σ 107 (10 + v3).toNatClampNeg ((σ 107 (10 + v3).toNatClampNeg) - 1)) 107 (6 + v3).toNatClampNeg (v1 + 1)) v1 v2) Q
              unfold zb_M_doStep_618
              refine zq_chk (by (first | with_reducible assumption | omega | grind)) fun c39 => ?_
              have Pr25 : JD v1 σ0 (zx_up (zx_up σ 107 (10 + v3).toNatClampNeg ((σ 107 (10 + v3).toNatClampNeg) - 1)) 107 (6 + v3).toNatClampNeg (v1 + 1)) := (JD.own (by (first | with_reducible assumption | omega | grind)) (by (first | with_reducible assumption | omega | grind)) (JD.free (NF10 (by (first | with_reducible assumption | omega | grind))) hJ))
              refine zq_bind (q_f_M_goTo hN Pr25.hx Pr25.n.z (Pr25.n.nw.nx _) (by first | exact k4 | exact k5 (by (first | with_reducible assumption | omega | grind)) | exact ⟨by (first | with_reducible assumption | omega | grind), by (first | with_reducible assumption | omega | grind)⟩) Pr25.s2 Pr25.s5 fun r25 jr25 kr25 => ?_)
              exact hQ _ jr25
            ·
              show zq (zb_M_doStep_432 N (zx_up σ 107 (10 + v3).toNatClampNeg ((σ 107 (10 + v3).toNatClampNeg) - 1)) v1 v2 0 (6 + v3)) Q
              unfold zb_M_doStep_432
              refine zq_chk (by (first | with_reducible assumption | omega | grind)) fun c40 => ?_
              show zq (zb_M_doStep_618 N (zx_up (zx_up σ 107 (10 + v3).toNatClampNeg ((σ 107 (10 + v3).toNatClampNeg) - 1)) 107 (6 + v3).toNatClampNeg 0) v1 v2) Q
              unfold zb_M_doStep_618
              refine zq_chk (by (first | with_reducible assumption | omega | grind)) fun c41 => ?_
              have Pr25 : JD v1 σ0 (zx_up (zx_up σ 107 (10 + v3).toNatClampNeg ((σ 107 (10 + v3).toNatClampNeg) - 1)) 107 (6 + v3).toNatClampNeg 0) := (JD.own (by (first | with_reducible assumption | omega | grind)) (by (first | with_reducible assumption | omega | grind)) (JD.free (NF10 (by (first | with_reducible assumption | omega | grind))) hJ))
              refine zq_bind (q_f_M_goTo hN Pr25.hx Pr25.n.z (Pr25.n.nw.nx _) (by first | exact k4 | exact k5 (by (first | with_reducible assumption | omega | grind)) | exact ⟨by (first | with_reducible assumption | omega | grind), by (first | with_reducible assumption | omega | grind)⟩) Pr25.s2 Pr25.s5 fun r25 jr25 kr25 => ?_)
              exact hQ _ jr25
          ·
            refine zq_ite (fun c42 => ?_) fun c42 => ?_
            ·
              refine zq_bind (q_f_M_isSo (by (first | with_reducible assumption | omega | grind)) (by (first | with_reducible assumption | omega | grind)) (by (first | with_reducible assumption | omega | grind)) (by (first | with_reducible assumption | omega | grind)) fun r58 => ?_)
              refine zq_ite (fun c43 => ?_) fun c43 => ?_
              ·
                refine zq_chk (by (first | with_reducible assumption | omega | grind)) fun c44 => ?_
                show zq (zb_M_doStep_462 N σ (σ 95 v2.toNatClampNeg) v1) Q
                unfold zb_M_doStep_462
                refine zq_bind (q_f_M_goTo hN hJ.hx hJ.n.z (hJ.n.nw.nx _) (by first | exact k4 | exact k5 (by (first | with_reducible assumption | omega | grind)) | exact ⟨by (first | with_reducible assumption | omega | grind), by (first | with_reducible assumption | omega | grind)⟩) hJ.s2 hJ.s5 fun r56 jr56 kr56 => ?_)
                exact hQ _ jr56
              ·
                refine zq_chk (by (first | with_reducible assumption | omega | grind)) fun c45 => ?_
                show zq (zb_M_doStep_462 N σ (σ 94 v2.toNatClampNeg) v1) Q
                unfold zb_M_doStep_462
                refine zq_bind (q_f_M_goTo hN hJ.hx hJ.n.z (hJ.n.nw.nx _) (by first | exact k4 | exact k5 (by (first | with_reducible assumption | omega | grind)) | exact ⟨by (first | with_reducible assumption | omega | grind), by (first | with_reducible assumption | omega | grind)⟩) hJ.s2 hJ.s5 fun r56 jr56 kr56 => ?_)
                exact hQ _ jr56
            ·
              refine zq_ite (fun c46 => ?_) fun c46 => ?_
              ·
                refine zq_bind (q_f_M_isSo (by (first | with_reducible assumption | omega | grind)) (by (first | with_reducible assumption | omega | grind)) (by (first | with_reducible assumption | omega | grind)) (by (first | with_reducible assumption | omega | grind)) fun r53 => ?_)
                refine zq_ite (fun c47 => ?_) fun c47 => ?_
                ·
                  refine zq_chk (by (first | with_reducible assumption | omega | grind)) fun c48 => ?_
                  show zq (zb_M_doStep_462 N σ (σ 95 v2.toNatClampNeg) v1) Q
                  unfold zb_M_doStep_462
                  refine zq_bind (q_f_M_goTo hN hJ.hx hJ.n.z (hJ.n.nw.nx _) (by first | exact k4 | exact k5 (by (first | with_reducible assumption | omega | grind)) | exact ⟨by (first | with_reducible assumption | omega | grind), by (first | with_reducible assumption | omega | grind)⟩) hJ.s2 hJ.s5 fun r56 jr56 kr56 => ?_)
                  exact hQ _ jr56
                ·
                  refine zq_chk (by (first | with_reducible assumption | omega | grind)) fun c49 => ?_
                  show zq (zb_M_doStep_462 N σ (σ 94 v2.toNatClampNeg) v1) Q
                  unfold zb_M_doStep_462
                  refine zq_bind (q_f_M_goTo hN hJ.hx hJ.n.z (hJ.n.nw.nx _) (by first | exact k4 | exact k5 (by (first | with_reducible assumption | omega | grind)) | exact ⟨by (first | with_reducible assumption | omega | grind), by (first | with_reducible assumption | omega | grind)⟩) hJ.s2 hJ.s5 fun r56 jr56 kr56 => ?_)
                  exact hQ _ jr56
              ·
                refine zq_ite (fun c50 => ?_) fun c50 => ?_
                ·
                  refine zq_ite (fun c51 => ?_) fun c51 => ?_
                  ·
                    refine zq_bind (q_f_M_failing hN hJ.hx hJ.n fun r45 jr45 => ?_)
                    exact hQ _ jr45
                  ·
                    refine zq_bind (q_f_M_at  fun r46 pr46 => ?_)
                    refine zq_chk (by (first | with_reducible assumption | omega | grind)) fun c52 => ?_
                    refine zq_chk (by (first | with_reducible assumption | omega | grind)) fun c53 => ?_
                    refine zq_chk (by (first | with_reducible assumption | omega | grind)) fun c54 => ?_
                    refine zq_chk (by (first | with_reducible assumption | omega | grind)) fun c55 => ?_
                    refine zq_bind (q_f_M_at  fun r51 pr51 => ?_)
                    refine zq_chk (by (first | with_reducible assumption | omega | grind)) fun c56 => ?_
                    exact hQ _ (JD.wait hJ i4 (by grind) (by (first | with_reducible assumption | omega | grind)) pr46 pr51)
                ·
                  refine zq_ite (fun c57 => ?_) fun c57 => ?_
                  ·
                    refine zq_ite (fun c58 => ?_) fun c58 => ?_
                    ·
                      refine zq_chk (by (first | with_reducible assumption | omega | grind)) fun c59 => ?_
                      refine zq_ite (fun c60 => ?_) fun c60 => ?_
                      ·
                        show zq (zb_M_doStep_563 N σ v1 v2 0 v3) Q
                        unfold zb_M_doStep_563
                        refine zq_bind (q_f_M_wake hN hJ.n fun r38 jr38 kr38 => ?_)
                        show zq (zb_M_doStep_618 N r38 v1 v2) Q
                        unfold zb_M_doStep_618
                        refine zq_chk (by (first | with_reducible assumption | omega | grind)) fun c61 => ?_
                        have Pr25 : JD v1 σ0 r38 := (JD.wk hJ jr38 kr38)
                        refine zq_bind (q_f_M_goTo hN Pr25.hx Pr25.n.z (Pr25.n.nw.nx _) (by rw [JN.eq hJ.n jr38 (by decide), JN.eq hJ.n jr38 (by decide)]; exact k4) Pr25.s2 Pr25.s5 fun r25 jr25 kr25 => ?_)
                        exact hQ _ jr25
                      ·
                        show zq (zb_M_doStep_563 N σ v1 v2 1 v3) Q
                        unfold zb_M_doStep_563
                        refine zq_bind (q_f_M_wake hN hJ.n fun r38 jr38 kr38 => ?_)
                        show zq (zb_M_doStep_618 N r38 v1 v2) Q
                        unfold zb_M_doStep_618
                        refine zq_chk (by (first | with_reducible assumption | omega | grind)) fun c62 => ?_
                        have Pr25 : JD v1 σ0 r38 := (JD.wk hJ jr38 kr38)
                        refine zq_bind (q_f_M_goTo hN Pr25.hx Pr25.n.z (Pr25.n.nw.nx _) (by rw [JN.eq hJ.n jr38 (by decide), JN.eq hJ.n jr38 (by decide)]; exact k4) Pr25.s2 Pr25.s5 fun r25 jr25 kr25 => ?_)
                        exact hQ _ jr25
                    ·
                      refine zq_bind (q_f_M_failing hN hJ.hx hJ.n fun r43 jr43 => ?_)
                      exact hQ _ jr43
                  ·
                    refine zq_ite (fun c63 => ?_) fun c63 => ?_
                    ·
                      refine zq_ite (fun c64 => ?_) fun c64 => ?_
                      ·
                        refine zq_chk (by (first | with_reducible assumption | omega | grind)) fun c65 => ?_
                        refine zq_ite (fun c66 => ?_) fun c66 => ?_
                        ·
                          show zq (zb_M_doStep_563 N σ v1 v2 0 v3) Q
                          unfold zb_M_doStep_563
                          refine zq_bind (q_f_M_wake hN hJ.n fun r38 jr38 kr38 => ?_)
                          show zq (zb_M_doStep_618 N r38 v1 v2) Q
                          unfold zb_M_doStep_618
                          refine zq_chk (by (first | with_reducible assumption | omega | grind)) fun c67 => ?_
                          have Pr25 : JD v1 σ0 r38 := (JD.wk hJ jr38 kr38)
                          refine zq_bind (q_f_M_goTo hN Pr25.hx Pr25.n.z (Pr25.n.nw.nx _) (by rw [JN.eq hJ.n jr38 (by decide), JN.eq hJ.n jr38 (by decide)]; exact k4) Pr25.s2 Pr25.s5 fun r25 jr25 kr25 => ?_)
                          exact hQ _ jr25
                        ·
                          show zq (zb_M_doStep_563 N σ v1 v2 1 v3) Q
                          unfold zb_M_doStep_563
                          refine zq_bind (q_f_M_wake hN hJ.n fun r38 jr38 kr38 => ?_)
                          show zq (zb_M_doStep_618 N r38 v1 v2) Q
                          unfold zb_M_doStep_618
                          refine zq_chk (by (first | with_reducible assumption | omega | grind)) fun c68 => ?_
                          have Pr25 : JD v1 σ0 r38 := (JD.wk hJ jr38 kr38)
                          refine zq_bind (q_f_M_goTo hN Pr25.hx Pr25.n.z (Pr25.n.nw.nx _) (by rw [JN.eq hJ.n jr38 (by decide), JN.eq hJ.n jr38 (by decide)]; exact k4) Pr25.s2 Pr25.s5 fun r25 jr25 kr25 => ?_)
                          exact hQ _ jr25
                      ·
                        refine zq_bind (q_f_M_failing hN hJ.hx hJ.n fun r39 jr39 => ?_)
                        exact hQ _ jr39
                    ·
                      refine zq_ite (fun c69 => ?_) fun c69 => ?_
                      ·
                        refine zq_bind (q_f_M_stateOf (by (first | with_reducible assumption | omega | grind)) fun r31 pr31 => ?_)
                        refine zq_ite (fun c70 => ?_) fun c70 => ?_
                        ·
                          refine zq_bind (q_f_M_begin hN (by (first | with_reducible assumption | omega | grind)) hJ.n fun r33 jr33 kr33 => ?_)
                          show zq (zb_M_doStep_618 N r33 v1 v2) Q
                          unfold zb_M_doStep_618
                          refine zq_chk (by (first | with_reducible assumption | omega | grind)) fun c71 => ?_
                          have Pr25 : JD v1 σ0 r33 := (JD.bg hJ (by grind) jr33 kr33)
                          refine zq_bind (q_f_M_goTo hN Pr25.hx Pr25.n.z (Pr25.n.nw.nx _) (by rw [JN.eq hJ.n jr33 (by decide), JN.eq hJ.n jr33 (by decide)]; exact k4) Pr25.s2 Pr25.s5 fun r25 jr25 kr25 => ?_)
                          exact hQ _ jr25
                        ·
                          refine zq_bind (q_f_M_failing hN hJ.hx hJ.n fun r34 jr34 => ?_)
                          exact hQ _ jr34
                      ·
                        refine zq_ite (fun c72 => ?_) fun c72 => ?_
                        ·
                          show zq (zb_M_doStep_618 N σ v1 v2) Q
                          unfold zb_M_doStep_618
                          refine zq_chk (by (first | with_reducible assumption | omega | grind)) fun c73 => ?_
                          refine zq_bind (q_f_M_goTo hN hJ.hx hJ.n.z (hJ.n.nw.nx _) (by first | exact k4 | exact k5 (by (first | with_reducible assumption | omega | grind)) | exact ⟨by (first | with_reducible assumption | omega | grind), by (first | with_reducible assumption | omega | grind)⟩) hJ.s2 hJ.s5 fun r25 jr25 kr25 => ?_)
                          exact hQ _ jr25
                        ·
                          refine zq_ite (fun c74 => ?_) fun c74 => ?_
                          ·
                            refine zq_bind (q_f_M_isSo (by (first | with_reducible assumption | omega | grind)) (by (first | with_reducible assumption | omega | grind)) (by (first | with_reducible assumption | omega | grind)) (by (first | with_reducible assumption | omega | grind)) fun r28 => ?_)
                            refine zq_ite (fun c75 => ?_) fun c75 => ?_
                            ·
                              show zq (zb_M_doStep_618 N σ v1 v2) Q
                              unfold zb_M_doStep_618
                              refine zq_chk (by (first | with_reducible assumption | omega | grind)) fun c76 => ?_
                              refine zq_bind (q_f_M_goTo hN hJ.hx hJ.n.z (hJ.n.nw.nx _) (by first | exact k4 | exact k5 (by (first | with_reducible assumption | omega | grind)) | exact ⟨by (first | with_reducible assumption | omega | grind), by (first | with_reducible assumption | omega | grind)⟩) hJ.s2 hJ.s5 fun r25 jr25 kr25 => ?_)
                              exact hQ _ jr25
                            ·
                              refine zq_bind (q_f_M_failing hN hJ.hx hJ.n fun r30 jr30 => ?_)
                              exact hQ _ jr30
                          ·
                            refine zq_ite (fun c77 => ?_) fun c77 => ?_
                            ·
                              refine zq_chk (by (first | with_reducible assumption | omega | grind)) fun c78 => ?_
                              refine zq_bind (q_f_M_goTo hN hJ.hx hJ.n.z (hJ.n.nw.nx _) (by first | exact k4 | exact k5 (by (first | with_reducible assumption | omega | grind)) | exact ⟨by (first | with_reducible assumption | omega | grind), by (first | with_reducible assumption | omega | grind)⟩) hJ.s2 hJ.s5 fun r27 jr27 kr27 => ?_)
                              exact hQ _ jr27
                            ·
                              show zq (zb_M_doStep_618 N σ v1 v2) Q
                              unfold zb_M_doStep_618
                              refine zq_chk (by (first | with_reducible assumption | omega | grind)) fun c79 => ?_
                              refine zq_bind (q_f_M_goTo hN hJ.hx hJ.n.z (hJ.n.nw.nx _) (by first | exact k4 | exact k5 (by (first | with_reducible assumption | omega | grind)) | exact ⟨by (first | with_reducible assumption | omega | grind), by (first | with_reducible assumption | omega | grind)⟩) hJ.s2 hJ.s5 fun r25 jr25 kr25 => ?_)
                              exact hQ _ jr25
/-! WHETHER A THREAD CAN STEP, AND ITS STEP -/
theorem q_f_M_canStep {σ0 σ : zS} {x1 : Int32} {Q : Int32 → Prop} (hJ : JN σ0 σ) (hx : 0 ≤ x1 ∧ x1 < σ 82 17) (hQ : ∀ r, (r = 0 ∨ σ 107 (15 + 6 * x1).toNatClampNeg = 1 ∨ σ 107 (15 + 6 * x1).toNatClampNeg = 3) → Q r) : zq (zf_M_canStep σ x1) Q := by
  have n4 := hJ.pg.nt
  have hx4 : 0 ≤ x1 ∧ x1 < 4 := by (first | with_reducible assumption | omega | grind)
  have hst := hJ.pg.st x1.toNatClampNeg
  have rd := hJ.nw.rd (14 + 6 * x1) x1 rfl hx4.1 hx4.2
  have ok := hJ.pg.ok x1 (σ 107 (14 + 6 * x1).toNatClampNeg) hx.1 hx.2 rd.1.1
  unfold zf_M_canStep
  refine zq_bind (q_f_M_stateOf hx4 fun r1 pr1 => ?_)
  refine zq_bind (q_f_M_at fun r2 pr2 => ?_)
  subst pr2
  generalize hp : σ 107 (14 + 6 * x1).toNatClampNeg = p at *
  generalize hs : σ 107 (15 + 6 * x1).toNatClampNeg = s at *
  refine zq_chk (by (first | with_reducible assumption | omega | grind)) fun c1 => ?_
  refine zq_ite (fun c2 => ?_) fun c2 => ?_
  · refine zq_ite (fun c3 => ?_) fun c3 => ?_
    · have ok := ok (rd.2.1 (by (first | with_reducible assumption | omega | grind)))
      have w2 := ok.w2
      refine zq_chk (by (first | with_reducible assumption | omega | grind)) fun c4 => ?_
      refine zq_ite (fun c5 => ?_) fun c5 => ?_
      · refine zq_chk (by (first | with_reducible assumption | omega | grind)) fun c6 => ?_
        refine zq_ite (fun c7 => ?_) fun c7 => ?_
        · exact hQ _ (by (first | with_reducible assumption | omega | grind))
        · refine zq_chk (by (first | with_reducible assumption | omega | grind)) fun c8 => ?_
          refine zq_bind (q_f_M_stateOf (by grind) fun r11 pr11 => ?_)
          refine zq_ite (fun c9 => ?_) fun c9 => ?_
          · exact hQ _ (by (first | with_reducible assumption | omega | grind))
          · refine zq_chk (by (first | with_reducible assumption | omega | grind)) fun c10 => ?_
            refine zq_bind (q_f_M_stateOf (by grind) fun r14 pr14 => ?_)
            refine zq_ite (fun c11 => ?_) fun c11 => ?_
            · exact hQ _ (by (first | with_reducible assumption | omega | grind))
            · exact hQ _ (by (first | with_reducible assumption | omega | grind))
      · refine zq_chk (by (first | with_reducible assumption | omega | grind)) fun c6 => ?_
        refine zq_chk (by grind) fun c7 => ?_
        refine zq_ite (fun c8 => ?_) fun c8 => ?_
        · exact hQ _ (by (first | with_reducible assumption | omega | grind))
        · refine zq_ite (fun c9 => ?_) fun c9 => ?_
          · exact hQ _ (by (first | with_reducible assumption | omega | grind))
          · exact hQ _ (by (first | with_reducible assumption | omega | grind))
    · exact hQ _ (by (first | with_reducible assumption | omega | grind))
  · have rw3 := rd.2.2.1 (by (first | with_reducible assumption | omega | grind))
    have rw2 := rd.2.1 (by (first | with_reducible assumption | omega | grind))
    refine zq_chk (by (first | with_reducible assumption | omega | grind)) fun c4 => ?_
    refine zq_chk (by (first | with_reducible assumption | omega | grind)) fun c5 => ?_
    refine zq_ite (fun c8 => ?_) fun c8 => ?_
    · exact hQ _ (by (first | with_reducible assumption | omega | grind))
    · exact hQ _ (by (first | with_reducible assumption | omega | grind))
theorem q_f_M_doStep {N : Nat} (hN : zBig ≤ N) {σ0 σ : zS} {x1 : Int32} {Q : zS → Prop} (hJ : JN σ0 σ) (hx : 0 ≤ x1 ∧ x1 < σ 82 17) (hs : σ 107 (15 + 6 * x1).toNatClampNeg = 1 ∨ σ 107 (15 + 6 * x1).toNatClampNeg = 3) (hQ : ∀ r, JN σ0 r → Q r) : zq (zf_M_doStep N σ x1) Q := by
  have n4 := hJ.pg.nt
  have hx4 : 0 ≤ x1 ∧ x1 < 4 := by (first | with_reducible assumption | omega | grind)
  have hst := hJ.pg.st x1.toNatClampNeg
  have rd := hJ.nw.rd (14 + 6 * x1) x1 rfl hx4.1 hx4.2
  have lt := rd.2.1 (by (first | with_reducible assumption | omega | grind))
  have ok := hJ.pg.ok x1 (σ 107 (14 + 6 * x1).toNatClampNeg) hx.1 hx.2 rd.1.1 lt
  unfold zf_M_doStep
  refine zq_bind (q_f_M_at fun r1 pr1 => ?_)
  subst pr1
  have hk : 0 ≤ 24 * x1 + σ 107 (14 + 6 * x1).toNatClampNeg ∧ 24 * x1 + σ 107 (14 + 6 * x1).toNatClampNeg < 96 := by (first | with_reducible assumption | omega | grind)
  refine zq_chk (by (first | with_reducible assumption | omega | grind)) fun c1 => ?_
  refine zq_chk hk fun c2 => ?_
  refine zq_bind (q_f_M_stateOf hx4 fun r4 pr4 => ?_)
  refine zq_ite (fun c3 => ?_) fun c3 => ?_
  · have e17 : σ 82 17 = σ0 82 17 := by rw [hJ.fr 82 (by decide)]
    have hD : JD x1 σ0 σ := ⟨hJ, hx4, by (first | with_reducible assumption | omega | grind), by (first | with_reducible assumption | omega | grind)⟩
    refine zq_chk hk fun c4 => ?_
    refine zq_bind (q_f_M_in fun r7 pr7 => ?_)
    refine zq_ite (fun c5 => ?_) fun c5 => ?_
    · show zq (zb_M_doStep_138 N σ x1 (24 * x1 + σ 107 (14 + 6 * x1).toNatClampNeg) (σ 93 (24 * x1 + σ 107 (14 + 6 * x1).toNatClampNeg).toNatClampNeg)) Q
      unfold zb_M_doStep_138
      exact q_b_M_doStep_139 hN hD ⟨rfl, hk, ok, rfl⟩ hQ
    · have w2 := ok.w2
      refine zq_chk (by grind) fun c6 => ?_
      refine zq_ite (fun c7 => ?_) fun c7 => ?_
      · show zq (zb_M_doStep_138 N σ x1 (24 * x1 + σ 107 (14 + 6 * x1).toNatClampNeg) (σ 93 (24 * x1 + σ 107 (14 + 6 * x1).toNatClampNeg).toNatClampNeg)) Q
        unfold zb_M_doStep_138
        exact q_b_M_doStep_139 hN hD ⟨rfl, hk, ok, rfl⟩ hQ
      · exact q_b_M_doStep_139 hN hD ⟨rfl, hk, ok, rfl⟩ hQ
  · have hw := rd.2.2.1 (by (first | with_reducible assumption | omega | grind))
    refine zq_chk (by (first | with_reducible assumption | omega | grind)) fun c4 => ?_
    refine zq_bind (q_f_M_at fun r93 pr93 => ?_)
    refine zq_chk (by (first | with_reducible assumption | omega | grind)) fun c5 => ?_
    refine zq_chk (by (first | with_reducible assumption | omega | grind)) fun c6 => ?_
    refine zq_bind (q_f_M_at fun r96 pr96 => ?_)
    refine zq_chk (by (first | with_reducible assumption | omega | grind)) fun c7 => ?_
    refine zq_bind (q_f_M_at fun r98 pr98 => ?_)
    refine zq_chk (by (first | with_reducible assumption | omega | grind)) fun c8 => ?_
    refine zq_chk hk fun c9 => ?_
    generalize hW : σ 93 (24 * x1 + σ 107 (14 + 6 * x1).toNatClampNeg).toNatClampNeg = W at *
    have hW4 : 0 ≤ W ∧ W < 4 := by (first | with_reducible assumption | omega | grind)
    generalize hA : zx_up σ 107 (6 + W).toNatClampNeg (x1 + 1) 107 (r93 + 5).toNatClampNeg = A
    have P1 : JN σ0 (zx_up σ 107 (6 + W).toNatClampNeg (x1 + 1)) := JN.own hW4 (by have : σ 82 17 = σ0 82 17 := by { rw [hJ.fr 82 (by decide)] }; grind) hJ
    have P2 : JN σ0 (zx_up (zx_up σ 107 (6 + W).toNatClampNeg (x1 + 1)) 107 (10 + W).toNatClampNeg A) := JN.free (NF10 hW4) P1
    have P3 : JN σ0 (zx_up (zx_up (zx_up σ 107 (6 + W).toNatClampNeg (x1 + 1)) 107 (10 + W).toNatClampNeg A) 107 (r96 + 5).toNatClampNeg 0) := JN.free (NF5 pr96 hx4) P2
    have e : (zx_up (zx_up (zx_up σ 107 (6 + W).toNatClampNeg (x1 + 1)) 107 (10 + W).toNatClampNeg A) 107 (r96 + 5).toNatClampNeg 0) 107 r98.toNatClampNeg = σ 107 (14 + 6 * x1).toNatClampNeg := by
      rw [pr98, zx_up_same, z_at0_keep (NF5 pr96 hx4).k0 hx4, zx_up_same, z_at0_keep (NF10 hW4).k0 hx4, zx_up_same, z_at0_keep (z_own_k0 hW4) hx4]
    have P4 : JN σ0 (zx_up (zx_up (zx_up (zx_up σ 107 (6 + W).toNatClampNeg (x1 + 1)) 107 (10 + W).toNatClampNeg A) 107 (r96 + 5).toNatClampNeg 0) 107 (r98 + 1).toNatClampNeg 1) :=
      JN.st (by decide) pr98 hx4 (fun _ => by rw [e]; exact lt) (fun q => absurd q (by decide)) P3
    refine zq_bind (q_f_M_goTo hN hx4 P4.z (P4.nw.nx _) ok.bh ?_ ?_ fun r j k => hQ _ j)
    · rw [zx_up_same, ← z_at1 pr98, zu_eq]
      decide
    · rw [zx_up_same, ← z_at1 pr98, zu_eq]
      decide
/-! LOADING A STATE, THE FIRST STATE, PUTTING A STATE INTO THE TABLE -/
theorem z_ti_add {a b : Int32} (h1 : -2147483648 ≤ a.toInt + b.toInt) (h2 : a.toInt + b.toInt ≤ 2147483647) : (a + b).toInt = a.toInt + b.toInt := by
  rw [Int32.toInt_add, Int.bmod_def]; omega
theorem z_ti_mul {a b : Int32} (h1 : -2147483648 ≤ a.toInt * b.toInt) (h2 : a.toInt * b.toInt ≤ 2147483647) : (a * b).toInt = a.toInt * b.toInt := by
  rw [Int32.toInt_mul]
  generalize a.toInt * b.toInt = p at *
  rw [Int.bmod_def]; omega
theorem z_nat {a : Int32} (h : 0 ≤ a) : (a.toNatClampNeg : Int) = a.toInt := by
  have : 0 ≤ a.toInt := Int32.le_iff_toInt_le.mp h
  unfold Int32.toNatClampNeg; omega
theorem z_natlt {a b : Int32} (h : 0 ≤ a) (hb : a < b) : a.toNatClampNeg < b.toNatClampNeg := by
  have h1 := z_nat h
  have h2 := z_nat (Int32.le_trans h (Int32.le_of_lt hb))
  have h3 := Int32.lt_iff_toInt_lt.mp hb
  omega
theorem z_inj {a b : Int32} (h : 0 ≤ a) (hb : 0 ≤ b) (e : a.toNatClampNeg = b.toNatClampNeg) : a = b := by
  have h1 := z_nat h
  have h2 := z_nat hb
  exact Int32.toInt_inj.mp (by omega)
theorem z_lin {c a b : Int32} (hc : 0 ≤ c ∧ c ≤ 96) (ha : 0 ≤ a ∧ a < 9000) (hb : 0 ≤ b ∧ b ≤ 100) : (c * a + b).toNatClampNeg = c.toNatClampNeg * a.toNatClampNeg + b.toNatClampNeg ∧ 0 ≤ c * a + b := by
  have c0 := z_nat hc.1; have a0 := z_nat ha.1; have b0 := z_nat hb.1
  have c1 : c.toInt ≤ 96 := Int32.le_iff_toInt_le.mp hc.2
  have a1 : a.toInt < 9000 := Int32.lt_iff_toInt_lt.mp ha.2
  have b1 : b.toInt ≤ 100 := Int32.le_iff_toInt_le.mp hb.2
  have p0 : 0 ≤ c.toInt * a.toInt := Int.mul_nonneg (by omega) (by omega)
  have p1 : c.toInt * a.toInt ≤ 96 * 9000 := Int.mul_le_mul c1 (by omega) (by omega) (by omega)
  have e1 := z_ti_mul (a := c) (b := a) (by omega) (by omega)
  have e2 := z_ti_add (a := c * a) (b := b) (by omega) (by omega)
  have pos : 0 ≤ c * a + b := Int32.le_iff_toInt_le.mpr (by rw [e2, e1]; show (0 : Int) ≤ _; omega)
  refine ⟨?_, pos⟩
  have e3 := z_nat pos
  have e4 : ((c.toNatClampNeg * a.toNatClampNeg : Nat) : Int) = c.toInt * a.toInt := by
    rw [Int.natCast_mul, c0, a0]
  omega
theorem z40 {a b : Int32} (ha : 0 ≤ a ∧ a < 8000) (hb : 0 ≤ b ∧ b < 40) : (40 * a + b).toNatClampNeg = 40 * a.toNatClampNeg + b.toNatClampNeg := by
  have := (z_lin (c := 40) (a := a) (b := b) (by decide) (by (first | with_reducible assumption | omega | grind)) (by (first | with_reducible assumption | omega | grind))).1
  rw [this, show (40 : Int32).toNatClampNeg = 40 from rfl]
theorem NW.congr {f f' g w : Nat → Int32} {m : Int32} (h : ∀ i, i < 40 → f' i = f i) (k : NW f g w m) : NW f' g w m := by
  unfold NW NT NO at k ⊢
  simp only [h 14 (by decide), h 15 (by decide), h 20 (by decide), h 21 (by decide), h 26 (by decide), h 27 (by decide), h 32 (by decide), h 33 (by decide), h 6 (by decide), h 7 (by decide), h 8 (by decide), h 9 (by decide), Nat.mul_zero, Nat.mul_one, Nat.reduceMul, Nat.reduceAdd] at k ⊢
  exact k
theorem z_succn {v b : Int32} (h0 : 0 ≤ v) (h : v < b) : (v + 1).toNatClampNeg = v.toNatClampNeg + 1 := by
  have h1 := z_succ h
  have h2 := z_nat h0
  have h3 : 0 ≤ v + 1 := Int32.le_iff_toInt_le.mpr (by rw [h1]; have := Int32.le_iff_toInt_le.mp h0; rw [show (0 : Int32).toInt = 0 from rfl] at this ⊢; omega)
  have h4 := z_nat h3
  omega
theorem q_f_M_load {N : Nat} (hN : zBig ≤ N) {σ0 σ : zS} {x1 : Int32} {Q : zS → Prop} (hJ : JZ σ0 σ) (hx : 0 ≤ x1 ∧ x1 < 8000) (hr : NW (fun i => σ 108 (40 * x1.toNatClampNeg + i)) (σ 90) (σ 93) (σ 82 17)) (hQ : ∀ r, JN σ0 r → Q r) : zq (zf_M_load N σ x1) Q := by
  have H : ∀ (n : Nat) (ρ : zS) (v2 : Int32), JZ σ0 ρ → (∀ i, i < v2.toNatClampNeg → ρ 107 i = σ 108 (40 * x1.toNatClampNeg + i)) → 0 ≤ v2 → v2 ≤ 40 → zmu v2 < n → zq (zb_M_load_2 N n ρ x1 v2) Q := by
    intro n
    induction n with
    | zero => intro _ _ _ _ _ _ hn; exact absurd hn (Nat.not_lt_zero _)
    | succ n ih =>
      intro ρ v2 hj hk h0 h40 hn
      rw [zb_M_load_2]
      refine zq_ite (fun c1 => ?_) fun c1 => ?_
      · have e : v2 = 40 := by (first | with_reducible assumption | omega | grind)
        subst e
        refine hQ _ (hj.n ?_)
        have e1 : ρ 90 = σ 90 := (hj.fr 90 (by decide)).trans (hJ.fr 90 (by decide)).symm
        have e2 : ρ 93 = σ 93 := (hj.fr 93 (by decide)).trans (hJ.fr 93 (by decide)).symm
        have e3 : ρ 82 = σ 82 := (hj.fr 82 (by decide)).trans (hJ.fr 82 (by decide)).symm
        rw [e1, e2, e3]
        exact NW.congr hk hr
      · have hv : 0 ≤ v2 ∧ v2 < 40 := by (first | with_reducible assumption | omega | grind)
        refine zq_chk (by (first | with_reducible assumption | omega | grind)) fun c2 => ?_
        refine zq_chk hv fun c3 => ?_
        refine ih _ (v2 + 1) hj.up ?_ (by (first | with_reducible assumption | omega | grind)) (by (first | with_reducible assumption | omega | grind)) (zmu_up c1 hn)
        intro i hi
        rw [z_succn h0 hv.2] at hi
        rw [zx_up_same, z40 hx hv, show ρ 108 = σ 108 from (hj.fr 108 (by decide)).trans (hJ.fr 108 (by decide)).symm]
        by_cases q : i = v2.toNatClampNeg
        · rw [q, zu_eq]
        · rw [zu_ne q]; exact hk i (by omega)
  exact H N σ 0 hJ (fun i hi => absurd hi (Nat.not_lt_zero _)) (by decide) (by decide) (zmu_lt hN _)
theorem NW.zero {g w : Nat → Int32} (h : ∀ t, 0 ≤ g t) {m : Int32} (hm : 0 ≤ m) : NW (fun _ => 0) g w m := by
  have h0 := h 0; have h1 := h 1; have h2 := h 2; have h3 := h 3
  unfold NW NT NO
  grind
theorem q_f_M_firstState {N : Nat} (hN : zBig ≤ N) {σ0 σ : zS} {Q : zS → Prop} (hJ : JZ σ0 σ) (hQ : ∀ r, JN σ0 r → Q r) : zq (zf_M_firstState N σ) Q := by
  have H63 : ∀ (k51 : zS → Int32 → Option zS) (v1 : Int32), (∀ r, JN σ0 r → zq (k51 r (v1 + 1)) Q) → 0 ≤ v1 ∧ v1 < 4 → ∀ (n : Nat) (ρ : zS) (v2 v3 : Int32), JN σ0 ρ → 0 ≤ v3 → zmu v3 < n → zq (zb_M_firstState_63 k51 N n ρ v1 v2 v3) Q := by
    intro k51 v1 hk h1 n
    induction n with
    | zero => intro _ _ _ _ _ hn; exact absurd hn (Nat.not_lt_zero _)
    | succ n ih =>
      intro ρ v2 v3 hj h0 hn
      have nt := hj.pg.nt
      rw [zb_M_firstState_63]
      refine zq_ite (fun c1 => ?_) fun c1 => ?_
      · refine zq_ite (fun c2 => ?_) fun c2 => ?_
        · exact hk _ hj
        · exact zq_bind (q_f_M_begin hN h1 hj fun r6 j6 _ => hk _ j6)
      · have h96 : v3 < 96 := by (first | with_reducible assumption | omega | grind)
        have d := z_d24 v3 h0 h96
        have up := zmu_up c1 hn
        refine zq_ite (fun c2 => ?_) fun c2 => ?_
        · exact ih _ 1 (v3 + 1) hj (by (first | with_reducible assumption | omega | grind)) up
        · refine zq_chk d.1 fun c3 => ?_
          refine zq_ite (fun c4 => ?_) fun c4 => ?_
          · exact ih _ 0 (v3 + 1) hj (by (first | with_reducible assumption | omega | grind)) up
          · refine zq_chk ⟨h0, h96⟩ fun c5 => ?_
            refine zq_ite (fun c6 => ?_) fun c6 => ?_
            · exact ih _ 0 (v3 + 1) hj (by (first | with_reducible assumption | omega | grind)) up
            · refine zq_chk ⟨h0, h96⟩ fun c7 => ?_
              refine zq_ite (fun c8 => ?_) fun c8 => ?_
              · exact ih _ 0 (v3 + 1) hj (by (first | with_reducible assumption | omega | grind)) up
              · exact ih _ 1 (v3 + 1) hj (by (first | with_reducible assumption | omega | grind)) up
  have H51 : ∀ (n : Nat) (ρ : zS) (v1 : Int32), JN σ0 ρ → 0 ≤ v1 → zmu v1 < n → zq (zb_M_firstState_51 N n ρ v1) Q := by
    intro n
    induction n with
    | zero => intro _ _ _ _ hn; exact absurd hn (Nat.not_lt_zero _)
    | succ n ih =>
      intro ρ v1 hj h0 hn
      have nt := hj.pg.nt
      rw [zb_M_firstState_51]
      refine zq_ite (fun c1 => hQ _ hj) fun c1 => ?_
      exact H63 _ v1 (fun r jr => ih r (v1 + 1) jr (by (first | with_reducible assumption | omega | grind)) (zmu_up c1 hn)) (by (first | with_reducible assumption | omega | grind)) N ρ 0 0 hj (by decide) (zmu_lt hN _)
  have H23 : ∀ (n : Nat) (ρ : zS) (v1 : Int32), JN σ0 ρ → 0 ≤ v1 → zmu v1 < n → zq (zb_M_firstState_23 N n ρ v1) Q := by
    intro n
    induction n with
    | zero => intro _ _ _ _ hn; exact absurd hn (Nat.not_lt_zero _)
    | succ n ih =>
      intro ρ v1 hj h0 hn
      have nf := hj.pg.nf
      rw [zb_M_firstState_23]
      refine zq_ite (fun c1 => H51 N ρ 0 hj (by decide) (zmu_lt hN _)) fun c1 => ?_
      have hv : 0 ≤ v1 ∧ v1 < 6 := by (first | with_reducible assumption | omega | grind)
      refine zq_chk hv fun _ => ?_
      refine zq_chk (by (first | with_reducible assumption | omega | grind)) fun _ => ?_
      exact ih _ (v1 + 1) (JN.free (NFv hv) hj) (by (first | with_reducible assumption | omega | grind)) (zmu_up c1 hn)
  have H2 : ∀ (n : Nat) (ρ : zS) (v1 : Int32), JZ σ0 ρ → (∀ i, i < v1.toNatClampNeg → ρ 107 i = 0) → 0 ≤ v1 → v1 ≤ 40 → zmu v1 < n → zq (zb_M_firstState_2 N n ρ v1) Q := by
    intro n
    induction n with
    | zero => intro _ _ _ _ _ _ hn; exact absurd hn (Nat.not_lt_zero _)
    | succ n ih =>
      intro ρ v1 hj hk h0 h40 hn
      rw [zb_M_firstState_2]
      refine zq_ite (fun c1 => ?_) fun c1 => ?_
      · have e : v1 = 40 := by (first | with_reducible assumption | omega | grind)
        subst e
        exact H23 N ρ 0 (hj.n (NW.congr hk (NW.zero (fun t => (hj.pg.st t).1) hj.pg.nt.1))) (by decide) (zmu_lt hN _)
      · have hv : 0 ≤ v1 ∧ v1 < 40 := by (first | with_reducible assumption | omega | grind)
        refine zq_chk hv fun c3 => ?_
        refine ih _ (v1 + 1) hj.up ?_ (by (first | with_reducible assumption | omega | grind)) (by (first | with_reducible assumption | omega | grind)) (zmu_up c1 hn)
        intro i hi
        rw [z_succn h0 hv.2] at hi
        rw [zx_up_same]
        by_cases q : i = v1.toNatClampNeg
        · rw [q, zu_eq]
        · rw [zu_ne q]; exact hk i (by omega)
  exact H2 N σ 0 hJ (fun i hi => absurd hi (Nat.not_lt_zero _)) (by decide) (by decide) (zmu_lt hN _)
theorem z_byte {v : Int32} (h : 0 ≤ v ∧ v ≤ 100) : zJ_byte v = v := by
  have h1 : 0 ≤ v.toInt := Int32.le_iff_toInt_le.mp h.1
  have h2 : v.toInt ≤ 100 := Int32.le_iff_toInt_le.mp h.2
  apply Int32.toInt_inj.mp
  unfold zJ_byte
  rw [Int8.toInt_toInt32, Int32.toInt_toInt8, Int.bmod_def]
  omega
theorem NW.bytes {f f' g w : Nat → Int32} {m : Int32} (hm : m ≤ 4) (hg : ∀ t, g t ≤ 24) (h : ∀ i, i < 40 → f' i = zJ_byte (zJ_byte (f i))) (k : NW f g w m) : NW f' g w m := by
  have b : ∀ i, i < 40 → 0 ≤ f i ∧ f i ≤ 100 → f' i = f i := fun i hi hb => by rw [h i hi, z_byte hb, z_byte hb]
  have g0 := hg 0; have g1 := hg 1; have g2 := hg 2; have g3 := hg 3
  have k2 := k
  unfold NW NT NO at k2
  simp only [Nat.mul_zero, Nat.mul_one, Nat.reduceMul, Nat.reduceAdd] at k2
  obtain ⟨⟨⟨a0, a1, a2, a3⟩, ⟨b0, b1, b2, b3⟩, ⟨c0, c1, c2, c3⟩, ⟨d0, d1, d2, d3⟩⟩, e6, e7, e8, e9⟩ := k2
  unfold NW NT NO
  simp only [Nat.mul_zero, Nat.mul_one, Nat.reduceMul, Nat.reduceAdd]
  rw [b 14 (by decide) (by grind), b 15 (by decide) (by grind), b 20 (by decide) (by grind), b 21 (by decide) (by grind), b 26 (by decide) (by grind), b 27 (by decide) (by grind), b 32 (by decide) (by grind), b 33 (by decide) (by grind), b 6 (by decide) (by grind), b 7 (by decide) (by grind), b 8 (by decide) (by grind), b 9 (by decide) (by grind)]
  exact ⟨⟨⟨a0, a1, a2, a3⟩, ⟨b0, b1, b2, b3⟩, ⟨c0, c1, c2, c3⟩, ⟨d0, d1, d2, d3⟩⟩, e6, e7, e8, e9⟩
